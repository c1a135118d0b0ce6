/-! What stays while a value is worked with (reference; made by kr.py). -/
abbrev KRt := Int64 × (Nat → Int32) × (Nat → Int32) × (Nat → Int32) × (Nat → Int32) × (Nat → Int32) × (Nat → Int32) × (Nat → Int32) × (Nat → Int32) × Int32 × Int32
/-- the seed (unless draws are made: dr), nodes, bodies, iterators' nodes; atoms, iterators open -/
def kr (dr : Bool) (σ : MS) : KRt := ((if dr then 0 else σ.2.1 96), σ.2.2 4, σ.2.2 5, σ.2.2 6, σ.2.2 7, σ.2.2 8, σ.2.2 9, σ.2.2 17, σ.2.2 50, σ.1 95, σ.1 72)
def Kr (dr : Bool) (x : Option (Int32 × MS)) (w : KRt) : Prop := ∀ r, x = some r → kr dr r.2 = w
section KRS
variable {dr : Bool}
theorem Kr_no (w : KRt) : Kr dr none w := fun _ h => by cases h
theorem Kr_so {r : Int32 × MS} {w : KRt} (h : kr dr r.2 = w) : Kr dr (some r) w := fun _ e => by cases e; exact h
theorem Kr_eq {a a' : Option (Int32 × MS)} {w : KRt} (h1 : a = a') (h : Kr dr a' w) : Kr dr a w := by rw [h1]; exact h
theorem Kr_c {a : Option (Int32 × MS)} {w w' : KRt} (h : w' = w) (t : Kr dr a w') : Kr dr a w := h ▸ t
theorem Kr_ob {x : Option (Int32 × MS)} {f : Int32 × MS → Option (Int32 × MS)} {w : KRt} (h1 : Kr dr x w) (h2 : ∀ r, kr dr r.2 = w → Kr dr (f r) w) : Kr dr (ob x f) w := by
  intro r hr
  cases x with
  | none => cases hr
  | some s => exact h2 s (h1 s rfl) r hr
theorem Kr_ite {c : Prop} {_ : Decidable c} {a b : Option (Int32 × MS)} {w : KRt} (h1 : Kr dr a w) (h2 : Kr dr b w) : Kr dr (if c then a else b) w := by
  by_cases h : c
  · rw [if_pos h]; exact h1
  · rw [if_neg h]; exact h2
theorem Kr_od {d : Nat} {f : Nat → Option (Int32 × MS)} {w : KRt} (h : ∀ e, Kr dr (f e) w) : Kr dr (od d f) w := by
  cases d with
  | zero => exact Kr_no _
  | succ e => exact h e
theorem kr_copied : ∀ (k b : Nat) (L : Nat → Int32) (σ : MS), Kr dr (x_copied k b L σ) (kr dr σ) := by
  intro k
  induction k with
  | zero => intro b L σ; exact Kr_no _
  | succ k ih =>
    intro b L σ
    match b with
    | 0 =>
      refine Kr_eq (by rw [x_copied]) ?_
      exact Kr_ite (Kr_c rfl (ih _ _ _)) (Kr_so rfl)
    | 1 =>
      refine Kr_eq (by rw [x_copied]) ?_
      exact Kr_ite (Kr_ite (Kr_ite (Kr_so rfl) (Kr_no _)) (Kr_c rfl (ih _ _ _))) (Kr_no _)
    | 2 =>
      refine Kr_eq (by rw [x_copied]) ?_
      exact Kr_ite (Kr_c rfl (ih _ _ _)) (Kr_no _)
    | 3 =>
      refine Kr_eq (by rw [x_copied]) ?_
      exact Kr_c rfl (ih _ _ _)
    | 4 =>
      refine Kr_eq (by rw [x_copied]) ?_
      exact Kr_ite (Kr_c rfl (ih _ _ _)) (Kr_ite (Kr_ite (Kr_c rfl (ih _ _ _)) (Kr_no _)) (Kr_no _))
    | 5 =>
      refine Kr_eq (by rw [x_copied]) ?_
      exact Kr_c rfl (ih _ _ _)
    | 6 =>
      refine Kr_eq (by rw [x_copied]) ?_
      exact Kr_ite (Kr_c rfl (ih _ _ _)) (Kr_no _)
    | 7 =>
      refine Kr_eq (by rw [x_copied]) ?_
      exact Kr_ite (Kr_c rfl (ih _ _ _)) (Kr_no _)
    | 8 =>
      refine Kr_eq (by rw [x_copied]) ?_
      exact Kr_so rfl
    | b + 9 =>
      refine Kr_eq (by rw [x_copied]) (Kr_no _)
theorem kr_copyRow__29 : ∀ (k b : Nat) (L : Nat → Int32) (σ : MS), Kr dr (x_copyRow__29 k b L σ) (kr dr σ) := by
  intro k
  induction k with
  | zero => intro b L σ; exact Kr_no _
  | succ k ih =>
    intro b L σ
    match b with
    | 0 =>
      refine Kr_eq (by rw [x_copyRow__29]) ?_
      exact Kr_c rfl (ih _ _ _)
    | 1 =>
      refine Kr_eq (by rw [x_copyRow__29]) ?_
      exact Kr_ite (Kr_c rfl (ih _ _ _)) (Kr_ite (Kr_ob (Kr_c rfl (kr_copied _ _ _ _)) (fun _ h1 => Kr_ite (Kr_c h1 (ih _ _ _)) (Kr_no _))) (Kr_no _))
    | 2 =>
      refine Kr_eq (by rw [x_copyRow__29]) ?_
      exact Kr_c rfl (ih _ _ _)
    | 3 =>
      refine Kr_eq (by rw [x_copyRow__29]) ?_
      exact Kr_so rfl
    | b + 4 =>
      refine Kr_eq (by rw [x_copyRow__29]) (Kr_no _)
theorem kr_copyRow__30 : ∀ (k b : Nat) (L : Nat → Int32) (σ : MS), Kr dr (x_copyRow__30 k b L σ) (kr dr σ) := by
  intro k
  induction k with
  | zero => intro b L σ; exact Kr_no _
  | succ k ih =>
    intro b L σ
    match b with
    | 0 =>
      refine Kr_eq (by rw [x_copyRow__30]) ?_
      exact Kr_c rfl (ih _ _ _)
    | 1 =>
      refine Kr_eq (by rw [x_copyRow__30]) ?_
      exact Kr_ite (Kr_c rfl (ih _ _ _)) (Kr_ite (Kr_ob (Kr_c rfl (kr_copied _ _ _ _)) (fun _ h2 => Kr_ite (Kr_c h2 (ih _ _ _)) (Kr_no _))) (Kr_no _))
    | 2 =>
      refine Kr_eq (by rw [x_copyRow__30]) ?_
      exact Kr_c rfl (ih _ _ _)
    | 3 =>
      refine Kr_eq (by rw [x_copyRow__30]) ?_
      exact Kr_so rfl
    | b + 4 =>
      refine Kr_eq (by rw [x_copyRow__30]) (Kr_no _)
theorem kr_copyState__30 : ∀ (k b : Nat) (L : Nat → Int32) (σ : MS), Kr dr (x_copyState__30 k b L σ) (kr dr σ) := by
  intro k
  induction k with
  | zero => intro b L σ; exact Kr_no _
  | succ k ih =>
    intro b L σ
    match b with
    | 0 =>
      refine Kr_eq (by rw [x_copyState__30]) ?_
      exact Kr_ob (Kr_c rfl (kr_copyRow__30 _ _ _ _)) (fun _ h3 => Kr_ite (Kr_ob (Kr_c h3 (kr_copyRow__30 _ _ _ _)) (fun _ h4 => Kr_ite (Kr_ob (Kr_c h4 (kr_copyRow__30 _ _ _ _)) (fun _ h5 => Kr_so h5)) (Kr_no _))) (Kr_no _))
    | b + 1 =>
      refine Kr_eq (by rw [x_copyState__30]) (Kr_no _)
theorem kr_copyRow__31 : ∀ (k b : Nat) (L : Nat → Int32) (σ : MS), Kr dr (x_copyRow__31 k b L σ) (kr dr σ) := by
  intro k
  induction k with
  | zero => intro b L σ; exact Kr_no _
  | succ k ih =>
    intro b L σ
    match b with
    | 0 =>
      refine Kr_eq (by rw [x_copyRow__31]) ?_
      exact Kr_c rfl (ih _ _ _)
    | 1 =>
      refine Kr_eq (by rw [x_copyRow__31]) ?_
      exact Kr_ite (Kr_c rfl (ih _ _ _)) (Kr_ite (Kr_ob (Kr_c rfl (kr_copied _ _ _ _)) (fun _ h6 => Kr_ite (Kr_c h6 (ih _ _ _)) (Kr_no _))) (Kr_no _))
    | 2 =>
      refine Kr_eq (by rw [x_copyRow__31]) ?_
      exact Kr_c rfl (ih _ _ _)
    | 3 =>
      refine Kr_eq (by rw [x_copyRow__31]) ?_
      exact Kr_so rfl
    | b + 4 =>
      refine Kr_eq (by rw [x_copyRow__31]) (Kr_no _)
theorem kr_copyState__31 : ∀ (k b : Nat) (L : Nat → Int32) (σ : MS), Kr dr (x_copyState__31 k b L σ) (kr dr σ) := by
  intro k
  induction k with
  | zero => intro b L σ; exact Kr_no _
  | succ k ih =>
    intro b L σ
    match b with
    | 0 =>
      refine Kr_eq (by rw [x_copyState__31]) ?_
      exact Kr_ob (Kr_c rfl (kr_copyRow__31 _ _ _ _)) (fun _ h7 => Kr_ite (Kr_ob (Kr_c h7 (kr_copyRow__31 _ _ _ _)) (fun _ h8 => Kr_ite (Kr_ob (Kr_c h8 (kr_copyRow__31 _ _ _ _)) (fun _ h9 => Kr_so h9)) (Kr_no _))) (Kr_no _))
    | b + 1 =>
      refine Kr_eq (by rw [x_copyState__31]) (Kr_no _)
theorem kr_copyRow__33 : ∀ (k b : Nat) (L : Nat → Int32) (σ : MS), Kr dr (x_copyRow__33 k b L σ) (kr dr σ) := by
  intro k
  induction k with
  | zero => intro b L σ; exact Kr_no _
  | succ k ih =>
    intro b L σ
    match b with
    | 0 =>
      refine Kr_eq (by rw [x_copyRow__33]) ?_
      exact Kr_c rfl (ih _ _ _)
    | 1 =>
      refine Kr_eq (by rw [x_copyRow__33]) ?_
      exact Kr_ite (Kr_c rfl (ih _ _ _)) (Kr_ite (Kr_ob (Kr_c rfl (kr_copied _ _ _ _)) (fun _ h10 => Kr_ite (Kr_c h10 (ih _ _ _)) (Kr_no _))) (Kr_no _))
    | 2 =>
      refine Kr_eq (by rw [x_copyRow__33]) ?_
      exact Kr_c rfl (ih _ _ _)
    | 3 =>
      refine Kr_eq (by rw [x_copyRow__33]) ?_
      exact Kr_so rfl
    | b + 4 =>
      refine Kr_eq (by rw [x_copyRow__33]) (Kr_no _)
theorem kr_copyRow__34 : ∀ (k b : Nat) (L : Nat → Int32) (σ : MS), Kr dr (x_copyRow__34 k b L σ) (kr dr σ) := by
  intro k
  induction k with
  | zero => intro b L σ; exact Kr_no _
  | succ k ih =>
    intro b L σ
    match b with
    | 0 =>
      refine Kr_eq (by rw [x_copyRow__34]) ?_
      exact Kr_c rfl (ih _ _ _)
    | 1 =>
      refine Kr_eq (by rw [x_copyRow__34]) ?_
      exact Kr_ite (Kr_c rfl (ih _ _ _)) (Kr_ite (Kr_ob (Kr_c rfl (kr_copied _ _ _ _)) (fun _ h11 => Kr_ite (Kr_c h11 (ih _ _ _)) (Kr_no _))) (Kr_no _))
    | 2 =>
      refine Kr_eq (by rw [x_copyRow__34]) ?_
      exact Kr_c rfl (ih _ _ _)
    | 3 =>
      refine Kr_eq (by rw [x_copyRow__34]) ?_
      exact Kr_so rfl
    | b + 4 =>
      refine Kr_eq (by rw [x_copyRow__34]) (Kr_no _)
theorem kr_copyRow__36 : ∀ (k b : Nat) (L : Nat → Int32) (σ : MS), Kr dr (x_copyRow__36 k b L σ) (kr dr σ) := by
  intro k
  induction k with
  | zero => intro b L σ; exact Kr_no _
  | succ k ih =>
    intro b L σ
    match b with
    | 0 =>
      refine Kr_eq (by rw [x_copyRow__36]) ?_
      exact Kr_c rfl (ih _ _ _)
    | 1 =>
      refine Kr_eq (by rw [x_copyRow__36]) ?_
      exact Kr_ite (Kr_c rfl (ih _ _ _)) (Kr_ite (Kr_ob (Kr_c rfl (kr_copied _ _ _ _)) (fun _ h12 => Kr_ite (Kr_c h12 (ih _ _ _)) (Kr_no _))) (Kr_no _))
    | 2 =>
      refine Kr_eq (by rw [x_copyRow__36]) ?_
      exact Kr_c rfl (ih _ _ _)
    | 3 =>
      refine Kr_eq (by rw [x_copyRow__36]) ?_
      exact Kr_so rfl
    | b + 4 =>
      refine Kr_eq (by rw [x_copyRow__36]) (Kr_no _)
theorem kr_copyRow__37 : ∀ (k b : Nat) (L : Nat → Int32) (σ : MS), Kr dr (x_copyRow__37 k b L σ) (kr dr σ) := by
  intro k
  induction k with
  | zero => intro b L σ; exact Kr_no _
  | succ k ih =>
    intro b L σ
    match b with
    | 0 =>
      refine Kr_eq (by rw [x_copyRow__37]) ?_
      exact Kr_c rfl (ih _ _ _)
    | 1 =>
      refine Kr_eq (by rw [x_copyRow__37]) ?_
      exact Kr_ite (Kr_c rfl (ih _ _ _)) (Kr_ite (Kr_ob (Kr_c rfl (kr_copied _ _ _ _)) (fun _ h13 => Kr_ite (Kr_c h13 (ih _ _ _)) (Kr_no _))) (Kr_no _))
    | 2 =>
      refine Kr_eq (by rw [x_copyRow__37]) ?_
      exact Kr_c rfl (ih _ _ _)
    | 3 =>
      refine Kr_eq (by rw [x_copyRow__37]) ?_
      exact Kr_so rfl
    | b + 4 =>
      refine Kr_eq (by rw [x_copyRow__37]) (Kr_no _)
theorem kr_copyRow__38 : ∀ (k b : Nat) (L : Nat → Int32) (σ : MS), Kr dr (x_copyRow__38 k b L σ) (kr dr σ) := by
  intro k
  induction k with
  | zero => intro b L σ; exact Kr_no _
  | succ k ih =>
    intro b L σ
    match b with
    | 0 =>
      refine Kr_eq (by rw [x_copyRow__38]) ?_
      exact Kr_c rfl (ih _ _ _)
    | 1 =>
      refine Kr_eq (by rw [x_copyRow__38]) ?_
      exact Kr_ite (Kr_c rfl (ih _ _ _)) (Kr_ite (Kr_ob (Kr_c rfl (kr_copied _ _ _ _)) (fun _ h14 => Kr_ite (Kr_c h14 (ih _ _ _)) (Kr_no _))) (Kr_no _))
    | 2 =>
      refine Kr_eq (by rw [x_copyRow__38]) ?_
      exact Kr_c rfl (ih _ _ _)
    | 3 =>
      refine Kr_eq (by rw [x_copyRow__38]) ?_
      exact Kr_so rfl
    | b + 4 =>
      refine Kr_eq (by rw [x_copyRow__38]) (Kr_no _)
theorem kr_copyRow__40 : ∀ (k b : Nat) (L : Nat → Int32) (σ : MS), Kr dr (x_copyRow__40 k b L σ) (kr dr σ) := by
  intro k
  induction k with
  | zero => intro b L σ; exact Kr_no _
  | succ k ih =>
    intro b L σ
    match b with
    | 0 =>
      refine Kr_eq (by rw [x_copyRow__40]) ?_
      exact Kr_c rfl (ih _ _ _)
    | 1 =>
      refine Kr_eq (by rw [x_copyRow__40]) ?_
      exact Kr_ite (Kr_c rfl (ih _ _ _)) (Kr_ite (Kr_ob (Kr_c rfl (kr_copied _ _ _ _)) (fun _ h15 => Kr_ite (Kr_c h15 (ih _ _ _)) (Kr_no _))) (Kr_no _))
    | 2 =>
      refine Kr_eq (by rw [x_copyRow__40]) ?_
      exact Kr_c rfl (ih _ _ _)
    | 3 =>
      refine Kr_eq (by rw [x_copyRow__40]) ?_
      exact Kr_so rfl
    | b + 4 =>
      refine Kr_eq (by rw [x_copyRow__40]) (Kr_no _)
theorem kr_copyRow__28 : ∀ (k b : Nat) (L : Nat → Int32) (σ : MS), Kr dr (x_copyRow__28 k b L σ) (kr dr σ) := by
  intro k
  induction k with
  | zero => intro b L σ; exact Kr_no _
  | succ k ih =>
    intro b L σ
    match b with
    | 0 =>
      refine Kr_eq (by rw [x_copyRow__28]) ?_
      exact Kr_c rfl (ih _ _ _)
    | 1 =>
      refine Kr_eq (by rw [x_copyRow__28]) ?_
      exact Kr_ite (Kr_c rfl (ih _ _ _)) (Kr_ite (Kr_ob (Kr_c rfl (kr_copied _ _ _ _)) (fun _ h16 => Kr_ite (Kr_c h16 (ih _ _ _)) (Kr_no _))) (Kr_no _))
    | 2 =>
      refine Kr_eq (by rw [x_copyRow__28]) ?_
      exact Kr_c rfl (ih _ _ _)
    | 3 =>
      refine Kr_eq (by rw [x_copyRow__28]) ?_
      exact Kr_so rfl
    | b + 4 =>
      refine Kr_eq (by rw [x_copyRow__28]) (Kr_no _)
theorem kr_sweep : ∀ (k b : Nat) (L : Nat → Int32) (σ : MS), Kr dr (x_sweep k b L σ) (kr dr σ) := by
  intro k
  induction k with
  | zero => intro b L σ; exact Kr_no _
  | succ k ih =>
    intro b L σ
    match b with
    | 0 =>
      refine Kr_eq (by rw [x_sweep]) ?_
      exact Kr_ite (Kr_c rfl (ih _ _ _)) (Kr_so rfl)
    | 1 =>
      refine Kr_eq (by rw [x_sweep]) ?_
      exact Kr_ite (Kr_c rfl (ih _ _ _)) (Kr_c rfl (ih _ _ _))
    | 2 =>
      refine Kr_eq (by rw [x_sweep]) ?_
      exact Kr_c rfl (ih _ _ _)
    | 3 =>
      refine Kr_eq (by rw [x_sweep]) ?_
      exact Kr_c rfl (ih _ _ _)
    | 4 =>
      refine Kr_eq (by rw [x_sweep]) ?_
      exact Kr_c rfl (ih _ _ _)
    | 5 =>
      refine Kr_eq (by rw [x_sweep]) ?_
      exact Kr_ob (Kr_c rfl (kr_copyRow__29 _ _ _ _)) (fun _ h17 => Kr_ob (Kr_c h17 (kr_copyState__30 _ _ _ _)) (fun _ h18 => Kr_c h18 (ih _ _ _)))
    | 6 =>
      refine Kr_eq (by rw [x_sweep]) ?_
      exact Kr_ite (Kr_c rfl (ih _ _ _)) (Kr_ob (Kr_c rfl (kr_copyState__31 _ _ _ _)) (fun _ h19 => Kr_c h19 (ih _ _ _)))
    | 7 =>
      refine Kr_eq (by rw [x_sweep]) ?_
      exact Kr_ob (Kr_c rfl (kr_copyRow__33 _ _ _ _)) (fun _ h20 => Kr_ob (Kr_c h20 (kr_copyRow__34 _ _ _ _)) (fun _ h21 => Kr_ob (Kr_c h21 (kr_copyRow__36 _ _ _ _)) (fun _ h22 => Kr_ob (Kr_c h22 (kr_copyRow__37 _ _ _ _)) (fun _ h23 => Kr_ob (Kr_c h23 (kr_copyRow__38 _ _ _ _)) (fun _ h24 => Kr_ob (Kr_c h24 (kr_copyRow__40 _ _ _ _)) (fun _ h25 => Kr_c h25 (ih _ _ _)))))))
    | 8 =>
      refine Kr_eq (by rw [x_sweep]) ?_
      exact Kr_ite (Kr_c rfl (ih _ _ _)) (Kr_ite (Kr_ite (Kr_ite (Kr_c rfl (ih _ _ _)) (Kr_ite (Kr_c rfl (ih _ _ _)) (Kr_c rfl (ih _ _ _)))) (Kr_no _)) (Kr_no _))
    | 9 =>
      refine Kr_eq (by rw [x_sweep]) ?_
      exact Kr_ob (Kr_c rfl (kr_copyRow__28 _ _ _ _)) (fun _ h26 => Kr_c h26 (ih _ _ _))
    | 10 =>
      refine Kr_eq (by rw [x_sweep]) ?_
      exact Kr_c rfl (ih _ _ _)
    | 11 =>
      refine Kr_eq (by rw [x_sweep]) ?_
      exact Kr_so rfl
    | b + 12 =>
      refine Kr_eq (by rw [x_sweep]) (Kr_no _)
theorem kr_fail : ∀ (k b : Nat) (L : Nat → Int32) (σ : MS), Kr dr (x_fail k b L σ) (kr dr σ) := by
  intro k
  induction k with
  | zero => intro b L σ; exact Kr_no _
  | succ k ih =>
    intro b L σ
    match b with
    | 0 =>
      refine Kr_eq (by rw [x_fail]) ?_
      exact Kr_ite (Kr_c rfl (ih _ _ _)) (Kr_c rfl (ih _ _ _))
    | 1 =>
      refine Kr_eq (by rw [x_fail]) ?_
      exact Kr_c rfl (ih _ _ _)
    | 2 =>
      refine Kr_eq (by rw [x_fail]) ?_
      exact Kr_so rfl
    | b + 3 =>
      refine Kr_eq (by rw [x_fail]) (Kr_no _)
theorem kr_make : ∀ (k b : Nat) (L : Nat → Int32) (σ : MS), Kr dr (x_make k b L σ) (kr dr σ) := by
  intro k
  induction k with
  | zero => intro b L σ; exact Kr_no _
  | succ k ih =>
    intro b L σ
    match b with
    | 0 =>
      refine Kr_eq (by rw [x_make]) ?_
      exact Kr_ite (Kr_c rfl (ih _ _ _)) (Kr_ob (Kr_c rfl (kr_fail _ _ _ _)) (fun _ h27 => Kr_so h27))
    | 1 =>
      refine Kr_eq (by rw [x_make]) ?_
      exact Kr_c rfl (ih _ _ _)
    | 2 =>
      refine Kr_eq (by rw [x_make]) ?_
      exact Kr_ite (Kr_c rfl (ih _ _ _)) (Kr_no _)
    | 3 =>
      refine Kr_eq (by rw [x_make]) ?_
      exact Kr_ite (Kr_c rfl (ih _ _ _)) (Kr_no _)
    | 4 =>
      refine Kr_eq (by rw [x_make]) ?_
      exact Kr_ite (Kr_c rfl (ih _ _ _)) (Kr_no _)
    | 5 =>
      refine Kr_eq (by rw [x_make]) ?_
      exact Kr_ite (Kr_c rfl (ih _ _ _)) (Kr_no _)
    | 6 =>
      refine Kr_eq (by rw [x_make]) ?_
      exact Kr_so rfl
    | b + 7 =>
      refine Kr_eq (by rw [x_make]) (Kr_no _)
theorem kr_wholeOf : ∀ (k b : Nat) (L : Nat → Int32) (σ : MS), Kr dr (x_wholeOf k b L σ) (kr dr σ) := by
  intro k
  induction k with
  | zero => intro b L σ; exact Kr_no _
  | succ k ih =>
    intro b L σ
    match b with
    | 0 =>
      refine Kr_eq (by rw [x_wholeOf]) ?_
      exact Kr_ite (Kr_c rfl (ih _ _ _)) (Kr_ite (Kr_ite (Kr_c rfl (ih _ _ _)) (Kr_c rfl (ih _ _ _))) (Kr_no _))
    | 1 =>
      refine Kr_eq (by rw [x_wholeOf]) ?_
      exact Kr_ite (Kr_c rfl (ih _ _ _)) (Kr_ob (Kr_c rfl (kr_fail _ _ _ _)) (fun _ h28 => Kr_so h28))
    | 2 =>
      refine Kr_eq (by rw [x_wholeOf]) ?_
      exact Kr_ob (Kr_c rfl (kr_make _ _ _ _)) (fun _ h29 => Kr_ite (Kr_c h29 (ih _ _ _)) (Kr_so h29))
    | 3 =>
      refine Kr_eq (by rw [x_wholeOf]) ?_
      exact Kr_ite (Kr_c rfl (ih _ _ _)) (Kr_c rfl (ih _ _ _))
    | 4 =>
      refine Kr_eq (by rw [x_wholeOf]) ?_
      exact Kr_c rfl (ih _ _ _)
    | 5 =>
      refine Kr_eq (by rw [x_wholeOf]) ?_
      exact Kr_ite (Kr_c rfl (ih _ _ _)) (Kr_no _)
    | 6 =>
      refine Kr_eq (by rw [x_wholeOf]) ?_
      exact Kr_c rfl (ih _ _ _)
    | 7 =>
      refine Kr_eq (by rw [x_wholeOf]) ?_
      exact Kr_ite (Kr_c rfl (ih _ _ _)) (Kr_ite (Kr_ite (Kr_c rfl (ih _ _ _)) (Kr_no _)) (Kr_no _))
    | 8 =>
      refine Kr_eq (by rw [x_wholeOf]) ?_
      exact Kr_c rfl (ih _ _ _)
    | 9 =>
      refine Kr_eq (by rw [x_wholeOf]) ?_
      exact Kr_ite (Kr_no _) (Kr_ite (Kr_c rfl (ih _ _ _)) (Kr_no _))
    | 10 =>
      refine Kr_eq (by rw [x_wholeOf]) ?_
      exact Kr_so rfl
    | b + 11 =>
      refine Kr_eq (by rw [x_wholeOf]) (Kr_no _)
theorem kr_literal : ∀ (k b : Nat) (L : Nat → Int32) (σ : MS), Kr dr (x_literal k b L σ) (kr dr σ) := by
  intro k
  induction k with
  | zero => intro b L σ; exact Kr_no _
  | succ k ih =>
    intro b L σ
    match b with
    | 0 =>
      refine Kr_eq (by rw [x_literal]) ?_
      exact Kr_c rfl (ih _ _ _)
    | 1 =>
      refine Kr_eq (by rw [x_literal]) ?_
      exact Kr_c rfl (ih _ _ _)
    | 2 =>
      refine Kr_eq (by rw [x_literal]) ?_
      exact Kr_ite (Kr_c rfl (ih _ _ _)) (Kr_ite (Kr_c rfl (ih _ _ _)) (Kr_no _))
    | 3 =>
      refine Kr_eq (by rw [x_literal]) ?_
      exact Kr_ite (Kr_c rfl (ih _ _ _)) (Kr_ite (Kr_ite (Kr_c rfl (ih _ _ _)) (Kr_no _)) (Kr_no _))
    | 4 =>
      refine Kr_eq (by rw [x_literal]) ?_
      exact Kr_c rfl (ih _ _ _)
    | 5 =>
      refine Kr_eq (by rw [x_literal]) ?_
      exact Kr_ite (Kr_c rfl (ih _ _ _)) (Kr_ite (Kr_c rfl (ih _ _ _)) (Kr_no _))
    | 6 =>
      refine Kr_eq (by rw [x_literal]) ?_
      exact Kr_c rfl (ih _ _ _)
    | 7 =>
      refine Kr_eq (by rw [x_literal]) ?_
      exact Kr_c rfl (ih _ _ _)
    | 8 =>
      refine Kr_eq (by rw [x_literal]) ?_
      exact Kr_ob (Kr_c rfl (kr_wholeOf _ _ _ _)) (fun _ h30 => Kr_so h30)
    | b + 9 =>
      refine Kr_eq (by rw [x_literal]) (Kr_no _)
theorem kr_size : ∀ (k b : Nat) (L : Nat → Int32) (σ : MS), Kr dr (x_size k b L σ) (kr dr σ) := by
  intro k
  induction k with
  | zero => intro b L σ; exact Kr_no _
  | succ k ih =>
    intro b L σ
    match b with
    | 0 =>
      refine Kr_eq (by rw [x_size]) ?_
      exact Kr_ite (Kr_c rfl (ih _ _ _)) (Kr_c rfl (ih _ _ _))
    | 1 =>
      refine Kr_eq (by rw [x_size]) ?_
      exact Kr_ite (Kr_c rfl (ih _ _ _)) (Kr_no _)
    | 2 =>
      refine Kr_eq (by rw [x_size]) ?_
      exact Kr_so rfl
    | b + 3 =>
      refine Kr_eq (by rw [x_size]) (Kr_no _)
theorem kr_worked : ∀ (k b : Nat) (L : Nat → Int32) (σ : MS), Kr dr (x_worked k b L σ) (kr dr σ) := by
  intro k
  induction k with
  | zero => intro b L σ; exact Kr_no _
  | succ k ih =>
    intro b L σ
    match b with
    | 0 =>
      refine Kr_eq (by rw [x_worked]) ?_
      exact Kr_c rfl (ih _ _ _)
    | 1 =>
      refine Kr_eq (by rw [x_worked]) ?_
      exact Kr_ite (Kr_c rfl (ih _ _ _)) (Kr_ob (Kr_c rfl (kr_fail _ _ _ _)) (fun _ h31 => Kr_c h31 (ih _ _ _)))
    | 2 =>
      refine Kr_eq (by rw [x_worked]) ?_
      exact Kr_so rfl
    | b + 3 =>
      refine Kr_eq (by rw [x_worked]) (Kr_no _)
theorem kr_answer : ∀ (k b : Nat) (L : Nat → Int32) (σ : MS), Kr dr (x_answer k b L σ) (kr dr σ) := by
  intro k
  induction k with
  | zero => intro b L σ; exact Kr_no _
  | succ k ih =>
    intro b L σ
    match b with
    | 0 =>
      refine Kr_eq (by rw [x_answer]) ?_
      exact Kr_ite (Kr_ob (Kr_c rfl (kr_size _ _ _ _)) (fun _ h32 => Kr_ob (Kr_c h32 (kr_worked _ _ _ _)) (fun _ h33 => Kr_c h33 (ih _ _ _)))) (Kr_c rfl (ih _ _ _))
    | 1 =>
      refine Kr_eq (by rw [x_answer]) ?_
      exact Kr_so rfl
    | b + 2 =>
      refine Kr_eq (by rw [x_answer]) (Kr_no _)
theorem kr_push : ∀ (k b : Nat) (L : Nat → Int32) (σ : MS), Kr dr (x_push k b L σ) (kr dr σ) := by
  intro k
  induction k with
  | zero => intro b L σ; exact Kr_no _
  | succ k ih =>
    intro b L σ
    match b with
    | 0 =>
      refine Kr_eq (by rw [x_push]) ?_
      exact Kr_ite (Kr_c rfl (ih _ _ _)) (Kr_no _)
    | 1 =>
      refine Kr_eq (by rw [x_push]) ?_
      exact Kr_so rfl
    | b + 2 =>
      refine Kr_eq (by rw [x_push]) (Kr_no _)
theorem kr_stringOf__12 : ∀ (k b : Nat) (L : Nat → Int32) (σ : MS), Kr dr (x_stringOf__12 k b L σ) (kr dr σ) := by
  intro k
  induction k with
  | zero => intro b L σ; exact Kr_no _
  | succ k ih =>
    intro b L σ
    match b with
    | 0 =>
      refine Kr_eq (by rw [x_stringOf__12]) ?_
      exact Kr_ite (Kr_no _) (Kr_ite (Kr_c rfl (ih _ _ _)) (Kr_ob (Kr_c rfl (kr_fail _ _ _ _)) (fun _ h34 => Kr_so h34)))
    | 1 =>
      refine Kr_eq (by rw [x_stringOf__12]) ?_
      exact Kr_ob (Kr_c rfl (kr_make _ _ _ _)) (fun _ h35 => Kr_c h35 (ih _ _ _))
    | 2 =>
      refine Kr_eq (by rw [x_stringOf__12]) ?_
      exact Kr_ite (Kr_c rfl (ih _ _ _)) (Kr_ite (Kr_ite (Kr_ite (Kr_c rfl (ih _ _ _)) (Kr_no _)) (Kr_no _)) (Kr_c rfl (ih _ _ _)))
    | 3 =>
      refine Kr_eq (by rw [x_stringOf__12]) ?_
      exact Kr_c rfl (ih _ _ _)
    | 4 =>
      refine Kr_eq (by rw [x_stringOf__12]) ?_
      exact Kr_ite (Kr_no _) (Kr_ite (Kr_c rfl (ih _ _ _)) (Kr_no _))
    | 5 =>
      refine Kr_eq (by rw [x_stringOf__12]) ?_
      exact Kr_so rfl
    | b + 6 =>
      refine Kr_eq (by rw [x_stringOf__12]) (Kr_no _)
theorem kr_valueOf : ∀ (k b : Nat) (L : Nat → Int32) (σ : MS), Kr dr (x_valueOf k b L σ) (kr dr σ) := by
  intro k
  induction k with
  | zero => intro b L σ; exact Kr_no _
  | succ k ih =>
    intro b L σ
    match b with
    | 0 =>
      refine Kr_eq (by rw [x_valueOf]) ?_
      exact Kr_ite (Kr_ite (Kr_ite (Kr_ite (Kr_so rfl) (Kr_no _)) (Kr_no _)) (Kr_c rfl (ih _ _ _))) (Kr_no _)
    | 1 =>
      refine Kr_eq (by rw [x_valueOf]) ?_
      exact Kr_ite (Kr_c rfl (ih _ _ _)) (Kr_ite (Kr_ite (Kr_c rfl (ih _ _ _)) (Kr_no _)) (Kr_no _))
    | 2 =>
      refine Kr_eq (by rw [x_valueOf]) ?_
      exact Kr_ite (Kr_ite (Kr_ite (Kr_c rfl (ih _ _ _)) (Kr_no _)) (Kr_no _)) (Kr_no _)
    | 3 =>
      refine Kr_eq (by rw [x_valueOf]) ?_
      exact Kr_so rfl
    | b + 4 =>
      refine Kr_eq (by rw [x_valueOf]) (Kr_no _)
theorem kr_pop : ∀ (k b : Nat) (L : Nat → Int32) (σ : MS), Kr dr (x_pop k b L σ) (kr dr σ) := by
  intro k
  induction k with
  | zero => intro b L σ; exact Kr_no _
  | succ k ih =>
    intro b L σ
    match b with
    | 0 =>
      refine Kr_eq (by rw [x_pop]) ?_
      exact Kr_c rfl (ih _ _ _)
    | 1 =>
      refine Kr_eq (by rw [x_pop]) ?_
      exact Kr_ite (Kr_so rfl) (Kr_no _)
    | b + 2 =>
      refine Kr_eq (by rw [x_pop]) (Kr_no _)
theorem kr_kind : ∀ (k b : Nat) (L : Nat → Int32) (σ : MS), Kr dr (x_kind k b L σ) (kr dr σ) := by
  intro k
  induction k with
  | zero => intro b L σ; exact Kr_no _
  | succ k ih =>
    intro b L σ
    match b with
    | 0 =>
      refine Kr_eq (by rw [x_kind]) ?_
      exact Kr_ite (Kr_c rfl (ih _ _ _)) (Kr_c rfl (ih _ _ _))
    | 1 =>
      refine Kr_eq (by rw [x_kind]) ?_
      exact Kr_ite (Kr_c rfl (ih _ _ _)) (Kr_c rfl (ih _ _ _))
    | 2 =>
      refine Kr_eq (by rw [x_kind]) ?_
      exact Kr_ite (Kr_c rfl (ih _ _ _)) (Kr_no _)
    | 3 =>
      refine Kr_eq (by rw [x_kind]) ?_
      exact Kr_so rfl
    | b + 4 =>
      refine Kr_eq (by rw [x_kind]) (Kr_no _)
theorem kr_wrongKind : ∀ (k b : Nat) (L : Nat → Int32) (σ : MS), Kr dr (x_wrongKind k b L σ) (kr dr σ) := by
  intro k
  induction k with
  | zero => intro b L σ; exact Kr_no _
  | succ k ih =>
    intro b L σ
    match b with
    | 0 =>
      refine Kr_eq (by rw [x_wrongKind]) ?_
      exact Kr_ob (Kr_c rfl (kr_fail _ _ _ _)) (fun _ h36 => Kr_so h36)
    | b + 1 =>
      refine Kr_eq (by rw [x_wrongKind]) (Kr_no _)
theorem kr_loadA : ∀ (k b : Nat) (L : Nat → Int32) (σ : MS), Kr dr (x_loadA k b L σ) (kr dr σ) := by
  intro k
  induction k with
  | zero => intro b L σ; exact Kr_no _
  | succ k ih =>
    intro b L σ
    match b with
    | 0 =>
      refine Kr_eq (by rw [x_loadA]) ?_
      exact Kr_ite (Kr_c rfl (ih _ _ _)) (Kr_no _)
    | 1 =>
      refine Kr_eq (by rw [x_loadA]) ?_
      exact Kr_c rfl (ih _ _ _)
    | 2 =>
      refine Kr_eq (by rw [x_loadA]) ?_
      exact Kr_ite (Kr_c rfl (ih _ _ _)) (Kr_ite (Kr_ite (Kr_c rfl (ih _ _ _)) (Kr_no _)) (Kr_no _))
    | 3 =>
      refine Kr_eq (by rw [x_loadA]) ?_
      exact Kr_c rfl (ih _ _ _)
    | 4 =>
      refine Kr_eq (by rw [x_loadA]) ?_
      exact Kr_so rfl
    | b + 5 =>
      refine Kr_eq (by rw [x_loadA]) (Kr_no _)
theorem kr_loadB : ∀ (k b : Nat) (L : Nat → Int32) (σ : MS), Kr dr (x_loadB k b L σ) (kr dr σ) := by
  intro k
  induction k with
  | zero => intro b L σ; exact Kr_no _
  | succ k ih =>
    intro b L σ
    match b with
    | 0 =>
      refine Kr_eq (by rw [x_loadB]) ?_
      exact Kr_ite (Kr_c rfl (ih _ _ _)) (Kr_no _)
    | 1 =>
      refine Kr_eq (by rw [x_loadB]) ?_
      exact Kr_c rfl (ih _ _ _)
    | 2 =>
      refine Kr_eq (by rw [x_loadB]) ?_
      exact Kr_ite (Kr_c rfl (ih _ _ _)) (Kr_ite (Kr_ite (Kr_c rfl (ih _ _ _)) (Kr_no _)) (Kr_no _))
    | 3 =>
      refine Kr_eq (by rw [x_loadB]) ?_
      exact Kr_c rfl (ih _ _ _)
    | 4 =>
      refine Kr_eq (by rw [x_loadB]) ?_
      exact Kr_so rfl
    | b + 5 =>
      refine Kr_eq (by rw [x_loadB]) (Kr_no _)
theorem kr_signOf : ∀ (k b : Nat) (L : Nat → Int32) (σ : MS), Kr dr (x_signOf k b L σ) (kr dr σ) := by
  intro k
  induction k with
  | zero => intro b L σ; exact Kr_no _
  | succ k ih =>
    intro b L σ
    match b with
    | 0 =>
      refine Kr_eq (by rw [x_signOf]) ?_
      exact Kr_ite (Kr_so rfl) (Kr_no _)
    | b + 1 =>
      refine Kr_eq (by rw [x_signOf]) (Kr_no _)
theorem kr_compareRows__42__43 : ∀ (k b : Nat) (L : Nat → Int32) (σ : MS), Kr dr (x_compareRows__42__43 k b L σ) (kr dr σ) := by
  intro k
  induction k with
  | zero => intro b L σ; exact Kr_no _
  | succ k ih =>
    intro b L σ
    match b with
    | 0 =>
      refine Kr_eq (by rw [x_compareRows__42__43]) ?_
      exact Kr_c rfl (ih _ _ _)
    | 1 =>
      refine Kr_eq (by rw [x_compareRows__42__43]) ?_
      exact Kr_ite (Kr_c rfl (ih _ _ _)) (Kr_ite (Kr_ite (Kr_ite (Kr_c rfl (ih _ _ _)) (Kr_no _)) (Kr_no _)) (Kr_c rfl (ih _ _ _)))
    | 2 =>
      refine Kr_eq (by rw [x_compareRows__42__43]) ?_
      exact Kr_so rfl
    | b + 3 =>
      refine Kr_eq (by rw [x_compareRows__42__43]) (Kr_no _)
theorem kr_add : ∀ (k b : Nat) (L : Nat → Int32) (σ : MS), Kr dr (x_add k b L σ) (kr dr σ) := by
  intro k
  induction k with
  | zero => intro b L σ; exact Kr_no _
  | succ k ih =>
    intro b L σ
    match b with
    | 0 =>
      refine Kr_eq (by rw [x_add]) ?_
      exact Kr_ob (Kr_c rfl (kr_loadA _ _ _ _)) (fun _ h37 => Kr_ob (Kr_c h37 (kr_loadB _ _ _ _)) (fun _ h38 => Kr_ob (Kr_c h38 (kr_signOf _ _ _ _)) (fun _ h39 => Kr_ob (Kr_c h39 (kr_signOf _ _ _ _)) (fun _ h40 => Kr_ite (Kr_c h40 (ih _ _ _)) (Kr_ite (Kr_c h40 (ih _ _ _)) (Kr_ite (Kr_c h40 (ih _ _ _)) (Kr_c h40 (ih _ _ _))))))))
    | 1 =>
      refine Kr_eq (by rw [x_add]) ?_
      exact Kr_ite (Kr_c rfl (ih _ _ _)) (Kr_c rfl (ih _ _ _))
    | 2 =>
      refine Kr_eq (by rw [x_add]) ?_
      exact Kr_c rfl (ih _ _ _)
    | 3 =>
      refine Kr_eq (by rw [x_add]) ?_
      exact Kr_c rfl (ih _ _ _)
    | 4 =>
      refine Kr_eq (by rw [x_add]) ?_
      exact Kr_c rfl (ih _ _ _)
    | 5 =>
      refine Kr_eq (by rw [x_add]) ?_
      exact Kr_ite (Kr_c rfl (ih _ _ _)) (Kr_ite (Kr_c rfl (ih _ _ _)) (Kr_ite (Kr_c rfl (ih _ _ _)) (Kr_no _)))
    | 6 =>
      refine Kr_eq (by rw [x_add]) ?_
      exact Kr_c rfl (ih _ _ _)
    | 7 =>
      refine Kr_eq (by rw [x_add]) ?_
      exact Kr_ite (Kr_c rfl (ih _ _ _)) (Kr_ite (Kr_c rfl (ih _ _ _)) (Kr_no _))
    | 8 =>
      refine Kr_eq (by rw [x_add]) ?_
      exact Kr_c rfl (ih _ _ _)
    | 9 =>
      refine Kr_eq (by rw [x_add]) ?_
      exact Kr_ite (Kr_c rfl (ih _ _ _)) (Kr_no _)
    | 10 =>
      refine Kr_eq (by rw [x_add]) ?_
      exact Kr_c rfl (ih _ _ _)
    | 11 =>
      refine Kr_eq (by rw [x_add]) ?_
      exact Kr_ite (Kr_c rfl (ih _ _ _)) (Kr_ite (Kr_c rfl (ih _ _ _)) (Kr_no _))
    | 12 =>
      refine Kr_eq (by rw [x_add]) ?_
      exact Kr_c rfl (ih _ _ _)
    | 13 =>
      refine Kr_eq (by rw [x_add]) ?_
      exact Kr_ite (Kr_c rfl (ih _ _ _)) (Kr_c rfl (ih _ _ _))
    | 14 =>
      refine Kr_eq (by rw [x_add]) ?_
      exact Kr_c rfl (ih _ _ _)
    | 15 =>
      refine Kr_eq (by rw [x_add]) ?_
      exact Kr_ob (Kr_c rfl (kr_wholeOf _ _ _ _)) (fun _ h41 => Kr_so h41)
    | 16 =>
      refine Kr_eq (by rw [x_add]) ?_
      exact Kr_ob (Kr_c rfl (kr_compareRows__42__43 _ _ _ _)) (fun _ h42 => Kr_ite (Kr_c h42 (ih _ _ _)) (Kr_c h42 (ih _ _ _)))
    | 17 =>
      refine Kr_eq (by rw [x_add]) ?_
      exact Kr_c rfl (ih _ _ _)
    | 18 =>
      refine Kr_eq (by rw [x_add]) ?_
      exact Kr_c rfl (ih _ _ _)
    | 19 =>
      refine Kr_eq (by rw [x_add]) ?_
      exact Kr_c rfl (ih _ _ _)
    | 20 =>
      refine Kr_eq (by rw [x_add]) ?_
      exact Kr_ite (Kr_c rfl (ih _ _ _)) (Kr_ite (Kr_c rfl (ih _ _ _)) (Kr_ite (Kr_c rfl (ih _ _ _)) (Kr_no _)))
    | 21 =>
      refine Kr_eq (by rw [x_add]) ?_
      exact Kr_c rfl (ih _ _ _)
    | 22 =>
      refine Kr_eq (by rw [x_add]) ?_
      exact Kr_ite (Kr_c rfl (ih _ _ _)) (Kr_ite (Kr_c rfl (ih _ _ _)) (Kr_no _))
    | 23 =>
      refine Kr_eq (by rw [x_add]) ?_
      exact Kr_c rfl (ih _ _ _)
    | 24 =>
      refine Kr_eq (by rw [x_add]) ?_
      exact Kr_ite (Kr_c rfl (ih _ _ _)) (Kr_c rfl (ih _ _ _))
    | 25 =>
      refine Kr_eq (by rw [x_add]) ?_
      exact Kr_c rfl (ih _ _ _)
    | 26 =>
      refine Kr_eq (by rw [x_add]) ?_
      exact Kr_ite (Kr_c rfl (ih _ _ _)) (Kr_c rfl (ih _ _ _))
    | 27 =>
      refine Kr_eq (by rw [x_add]) ?_
      exact Kr_c rfl (ih _ _ _)
    | 28 =>
      refine Kr_eq (by rw [x_add]) ?_
      exact Kr_ite (Kr_c rfl (ih _ _ _)) (Kr_no _)
    | 29 =>
      refine Kr_eq (by rw [x_add]) ?_
      exact Kr_c rfl (ih _ _ _)
    | 30 =>
      refine Kr_eq (by rw [x_add]) ?_
      exact Kr_ite (Kr_c rfl (ih _ _ _)) (Kr_c rfl (ih _ _ _))
    | 31 =>
      refine Kr_eq (by rw [x_add]) ?_
      exact Kr_c rfl (ih _ _ _)
    | 32 =>
      refine Kr_eq (by rw [x_add]) ?_
      exact Kr_ob (Kr_c rfl (kr_wholeOf _ _ _ _)) (fun _ h43 => Kr_so h43)
    | b + 33 =>
      refine Kr_eq (by rw [x_add]) (Kr_no _)
theorem kr_small : ∀ (k b : Nat) (L : Nat → Int32) (σ : MS), Kr dr (x_small k b L σ) (kr dr σ) := by
  intro k
  induction k with
  | zero => intro b L σ; exact Kr_no _
  | succ k ih =>
    intro b L σ
    match b with
    | 0 =>
      refine Kr_eq (by rw [x_small]) ?_
      exact Kr_c rfl (ih _ _ _)
    | 1 =>
      refine Kr_eq (by rw [x_small]) ?_
      exact Kr_ite (Kr_c rfl (ih _ _ _)) (Kr_c rfl (ih _ _ _))
    | 2 =>
      refine Kr_eq (by rw [x_small]) ?_
      exact Kr_c rfl (ih _ _ _)
    | 3 =>
      refine Kr_eq (by rw [x_small]) ?_
      exact Kr_c rfl (ih _ _ _)
    | 4 =>
      refine Kr_eq (by rw [x_small]) ?_
      exact Kr_ite (Kr_c rfl (ih _ _ _)) (Kr_ite (Kr_c rfl (ih _ _ _)) (Kr_no _))
    | 5 =>
      refine Kr_eq (by rw [x_small]) ?_
      exact Kr_c rfl (ih _ _ _)
    | 6 =>
      refine Kr_eq (by rw [x_small]) ?_
      exact Kr_ite (Kr_c rfl (ih _ _ _)) (Kr_c rfl (ih _ _ _))
    | 7 =>
      refine Kr_eq (by rw [x_small]) ?_
      exact Kr_c rfl (ih _ _ _)
    | 8 =>
      refine Kr_eq (by rw [x_small]) ?_
      exact Kr_ob (Kr_c rfl (kr_wholeOf _ _ _ _)) (fun _ h44 => Kr_so h44)
    | b + 9 =>
      refine Kr_eq (by rw [x_small]) (Kr_no _)
theorem kr_compareWholes : ∀ (k b : Nat) (L : Nat → Int32) (σ : MS), Kr dr (x_compareWholes k b L σ) (kr dr σ) := by
  intro k
  induction k with
  | zero => intro b L σ; exact Kr_no _
  | succ k ih =>
    intro b L σ
    match b with
    | 0 =>
      refine Kr_eq (by rw [x_compareWholes]) ?_
      exact Kr_ob (Kr_c rfl (kr_signOf _ _ _ _)) (fun _ h45 => Kr_ob (Kr_c h45 (kr_signOf _ _ _ _)) (fun _ h46 => Kr_ite (Kr_c h46 (ih _ _ _)) (Kr_ob (Kr_c h46 (kr_signOf _ _ _ _)) (fun _ h47 => Kr_ob (Kr_c h47 (kr_signOf _ _ _ _)) (fun _ h48 => Kr_so h48)))))
    | 1 =>
      refine Kr_eq (by rw [x_compareWholes]) ?_
      exact Kr_ite (Kr_ite (Kr_c rfl (ih _ _ _)) (Kr_no _)) (Kr_no _)
    | 2 =>
      refine Kr_eq (by rw [x_compareWholes]) ?_
      exact Kr_ite (Kr_c rfl (ih _ _ _)) (Kr_ite (Kr_ite (Kr_ite (Kr_c rfl (ih _ _ _)) (Kr_no _)) (Kr_no _)) (Kr_c rfl (ih _ _ _)))
    | 3 =>
      refine Kr_eq (by rw [x_compareWholes]) ?_
      exact Kr_ob (Kr_c rfl (kr_signOf _ _ _ _)) (fun _ h49 => Kr_ite (Kr_c h49 (ih _ _ _)) (Kr_c h49 (ih _ _ _)))
    | 4 =>
      refine Kr_eq (by rw [x_compareWholes]) ?_
      exact Kr_c rfl (ih _ _ _)
    | 5 =>
      refine Kr_eq (by rw [x_compareWholes]) ?_
      exact Kr_so rfl
    | b + 6 =>
      refine Kr_eq (by rw [x_compareWholes]) (Kr_no _)
theorem kr_rank : ∀ (k b : Nat) (L : Nat → Int32) (σ : MS), Kr dr (x_rank k b L σ) (kr dr σ) := by
  intro k
  induction k with
  | zero => intro b L σ; exact Kr_no _
  | succ k ih =>
    intro b L σ
    match b with
    | 0 =>
      refine Kr_eq (by rw [x_rank]) ?_
      exact Kr_ite (Kr_c rfl (ih _ _ _)) (Kr_c rfl (ih _ _ _))
    | 1 =>
      refine Kr_eq (by rw [x_rank]) ?_
      exact Kr_ite (Kr_c rfl (ih _ _ _)) (Kr_no _)
    | 2 =>
      refine Kr_eq (by rw [x_rank]) ?_
      exact Kr_so rfl
    | b + 3 =>
      refine Kr_eq (by rw [x_rank]) (Kr_no _)
theorem kr_s_compare {X : Nat → Nat → Nat → (Nat → Int32) → MS → Option (Int32 × MS)} (hX : ∀ e m b L (σ : MS), Kr dr (X e m b L σ) (kr dr σ)) (k d b : Nat) (L : Nat → Int32) (σ : MS) : Kr dr (s_compare X k d b L σ) (kr dr σ) := by
  match b with
  | 0 => exact Kr_ite (Kr_so rfl) (Kr_c rfl (hX _ _ _ _ _))
  | 1 => exact Kr_ob (Kr_c rfl (kr_rank _ _ _ _)) (fun _ h50 => Kr_ob (Kr_c h50 (kr_rank _ _ _ _)) (fun _ h51 => Kr_ite (Kr_c h51 (hX _ _ _ _ _)) (Kr_so h51)))
  | 2 => exact Kr_ite (Kr_ite (Kr_ob (Kr_c rfl (kr_compareWholes _ _ _ _)) (fun _ h52 => Kr_so h52)) (Kr_c rfl (hX _ _ _ _ _))) (Kr_no _)
  | 3 => exact Kr_ite (Kr_ite (Kr_c rfl (hX _ _ _ _ _)) (Kr_no _)) (Kr_no _)
  | 4 => exact Kr_ite (Kr_c rfl (hX _ _ _ _ _)) (Kr_ite (Kr_c rfl (hX _ _ _ _ _)) (Kr_ite (Kr_c rfl (hX _ _ _ _ _)) (Kr_ite (Kr_c rfl (hX _ _ _ _ _)) (Kr_c rfl (hX _ _ _ _ _)))))
  | 5 => exact Kr_ite (Kr_ite (Kr_od (fun _ => Kr_ob (Kr_c rfl (hX _ _ _ _ _)) (fun _ h53 => Kr_c h53 (hX _ _ _ _ _)))) (Kr_no _)) (Kr_no _)
  | 6 => exact Kr_ite (Kr_ite (Kr_c rfl (hX _ _ _ _ _)) (Kr_no _)) (Kr_no _)
  | 7 => exact Kr_ite (Kr_c rfl (hX _ _ _ _ _)) (Kr_so rfl)
  | 8 => exact Kr_c rfl (hX _ _ _ _ _)
  | 9 => exact Kr_so rfl
  | b + 10 => exact Kr_no _
theorem kr_GC : ∀ (k d m b : Nat) (L : Nat → Int32) (σ : MS), Kr dr (x_GC k d m b L σ) (kr dr σ) := by
  intro k
  induction k with
  | zero => intro d m b L σ; exact Kr_no _
  | succ k ih =>
    intro d m b L σ
    match m with
    | 0 => exact kr_s_compare ih k d b L σ
    | m + 1 => exact Kr_no _
theorem kr_compare (k b : Nat) (L : Nat → Int32) (σ : MS) : Kr dr (x_compare k b L σ) (kr dr σ) := kr_GC k 40 0 b L σ
theorem kr_merge : ∀ (k b : Nat) (L : Nat → Int32) (σ : MS), Kr dr (x_merge k b L σ) (kr dr σ) := by
  intro k
  induction k with
  | zero => intro b L σ; exact Kr_no _
  | succ k ih =>
    intro b L σ
    match b with
    | 0 =>
      refine Kr_eq (by rw [x_merge]) ?_
      exact Kr_c rfl (ih _ _ _)
    | 1 =>
      refine Kr_eq (by rw [x_merge]) ?_
      exact Kr_ite (Kr_c rfl (ih _ _ _)) (Kr_ite (Kr_c rfl (ih _ _ _)) (Kr_ite (Kr_c rfl (ih _ _ _)) (Kr_ite (Kr_ite (Kr_ob (Kr_c rfl (kr_compare _ _ _ _)) (fun _ h54 => Kr_ite (Kr_c h54 (ih _ _ _)) (Kr_c h54 (ih _ _ _)))) (Kr_no _)) (Kr_no _))))
    | 2 =>
      refine Kr_eq (by rw [x_merge]) ?_
      exact Kr_c rfl (ih _ _ _)
    | 3 =>
      refine Kr_eq (by rw [x_merge]) ?_
      exact Kr_c rfl (ih _ _ _)
    | 4 =>
      refine Kr_eq (by rw [x_merge]) ?_
      exact Kr_ite (Kr_c rfl (ih _ _ _)) (Kr_ite (Kr_c rfl (ih _ _ _)) (Kr_no _))
    | 5 =>
      refine Kr_eq (by rw [x_merge]) ?_
      exact Kr_ite (Kr_c rfl (ih _ _ _)) (Kr_no _)
    | 6 =>
      refine Kr_eq (by rw [x_merge]) ?_
      exact Kr_ite (Kr_c rfl (ih _ _ _)) (Kr_no _)
    | 7 =>
      refine Kr_eq (by rw [x_merge]) ?_
      exact Kr_ite (Kr_c rfl (ih _ _ _)) (Kr_c rfl (ih _ _ _))
    | 8 =>
      refine Kr_eq (by rw [x_merge]) ?_
      exact Kr_c rfl (ih _ _ _)
    | 9 =>
      refine Kr_eq (by rw [x_merge]) ?_
      exact Kr_ite (Kr_c rfl (ih _ _ _)) (Kr_c rfl (ih _ _ _))
    | 10 =>
      refine Kr_eq (by rw [x_merge]) ?_
      exact Kr_c rfl (ih _ _ _)
    | 11 =>
      refine Kr_eq (by rw [x_merge]) ?_
      exact Kr_c rfl (ih _ _ _)
    | 12 =>
      refine Kr_eq (by rw [x_merge]) ?_
      exact Kr_so rfl
    | b + 13 =>
      refine Kr_eq (by rw [x_merge]) (Kr_no _)
theorem kr_distinct : ∀ (k b : Nat) (L : Nat → Int32) (σ : MS), Kr dr (x_distinct k b L σ) (kr dr σ) := by
  intro k
  induction k with
  | zero => intro b L σ; exact Kr_no _
  | succ k ih =>
    intro b L σ
    match b with
    | 0 =>
      refine Kr_eq (by rw [x_distinct]) ?_
      exact Kr_c rfl (ih _ _ _)
    | 1 =>
      refine Kr_eq (by rw [x_distinct]) ?_
      exact Kr_ite (Kr_c rfl (ih _ _ _)) (Kr_c rfl (ih _ _ _))
    | 2 =>
      refine Kr_eq (by rw [x_distinct]) ?_
      exact Kr_ite (Kr_c rfl (ih _ _ _)) (Kr_ite (Kr_c rfl (ih _ _ _)) (Kr_c rfl (ih _ _ _)))
    | 3 =>
      refine Kr_eq (by rw [x_distinct]) ?_
      exact Kr_c rfl (ih _ _ _)
    | 4 =>
      refine Kr_eq (by rw [x_distinct]) ?_
      exact Kr_ite (Kr_c rfl (ih _ _ _)) (Kr_c rfl (ih _ _ _))
    | 5 =>
      refine Kr_eq (by rw [x_distinct]) ?_
      exact Kr_c rfl (ih _ _ _)
    | 6 =>
      refine Kr_eq (by rw [x_distinct]) ?_
      exact Kr_ob (Kr_c rfl (kr_merge _ _ _ _)) (fun _ h55 => Kr_c h55 (ih _ _ _))
    | 7 =>
      refine Kr_eq (by rw [x_distinct]) ?_
      exact Kr_c rfl (ih _ _ _)
    | 8 =>
      refine Kr_eq (by rw [x_distinct]) ?_
      exact Kr_ite (Kr_c rfl (ih _ _ _)) (Kr_ite (Kr_ite (Kr_c rfl (ih _ _ _)) (Kr_no _)) (Kr_no _))
    | 9 =>
      refine Kr_eq (by rw [x_distinct]) ?_
      exact Kr_c rfl (ih _ _ _)
    | 10 =>
      refine Kr_eq (by rw [x_distinct]) ?_
      exact Kr_c rfl (ih _ _ _)
    | 11 =>
      refine Kr_eq (by rw [x_distinct]) ?_
      exact Kr_c rfl (ih _ _ _)
    | 12 =>
      refine Kr_eq (by rw [x_distinct]) ?_
      exact Kr_ite (Kr_c rfl (ih _ _ _)) (Kr_ite (Kr_c rfl (ih _ _ _)) (Kr_ite (Kr_ite (Kr_ob (Kr_c rfl (kr_compare _ _ _ _)) (fun _ h56 => Kr_ite (Kr_c h56 (ih _ _ _)) (Kr_c h56 (ih _ _ _)))) (Kr_no _)) (Kr_no _)))
    | 13 =>
      refine Kr_eq (by rw [x_distinct]) ?_
      exact Kr_ite (Kr_ite (Kr_c rfl (ih _ _ _)) (Kr_no _)) (Kr_no _)
    | 14 =>
      refine Kr_eq (by rw [x_distinct]) ?_
      exact Kr_c rfl (ih _ _ _)
    | 15 =>
      refine Kr_eq (by rw [x_distinct]) ?_
      exact Kr_c rfl (ih _ _ _)
    | 16 =>
      refine Kr_eq (by rw [x_distinct]) ?_
      exact Kr_so rfl
    | b + 17 =>
      refine Kr_eq (by rw [x_distinct]) (Kr_no _)
theorem kr_height : ∀ (k b : Nat) (L : Nat → Int32) (σ : MS), Kr dr (x_height k b L σ) (kr dr σ) := by
  intro k
  induction k with
  | zero => intro b L σ; exact Kr_no _
  | succ k ih =>
    intro b L σ
    match b with
    | 0 =>
      refine Kr_eq (by rw [x_height]) ?_
      exact Kr_ite (Kr_c rfl (ih _ _ _)) (Kr_c rfl (ih _ _ _))
    | 1 =>
      refine Kr_eq (by rw [x_height]) ?_
      exact Kr_ite (Kr_c rfl (ih _ _ _)) (Kr_no _)
    | 2 =>
      refine Kr_eq (by rw [x_height]) ?_
      exact Kr_so rfl
    | b + 3 =>
      refine Kr_eq (by rw [x_height]) (Kr_no _)
theorem kr_checked : ∀ (k b : Nat) (L : Nat → Int32) (σ : MS), Kr dr (x_checked k b L σ) (kr dr σ) := by
  intro k
  induction k with
  | zero => intro b L σ; exact Kr_no _
  | succ k ih =>
    intro b L σ
    match b with
    | 0 =>
      refine Kr_eq (by rw [x_checked]) ?_
      exact Kr_ite (Kr_ite (Kr_ite (Kr_c rfl (ih _ _ _)) (Kr_ite (Kr_ite (Kr_c rfl (ih _ _ _)) (Kr_c rfl (ih _ _ _))) (Kr_no _))) (Kr_no _)) (Kr_c rfl (ih _ _ _))
    | 1 =>
      refine Kr_eq (by rw [x_checked]) ?_
      exact Kr_ob (Kr_c rfl (kr_fail _ _ _ _)) (fun _ h57 => Kr_c h57 (ih _ _ _))
    | 2 =>
      refine Kr_eq (by rw [x_checked]) ?_
      exact Kr_ite (Kr_c rfl (ih _ _ _)) (Kr_c rfl (ih _ _ _))
    | 3 =>
      refine Kr_eq (by rw [x_checked]) ?_
      exact Kr_c rfl (ih _ _ _)
    | 4 =>
      refine Kr_eq (by rw [x_checked]) ?_
      exact Kr_so rfl
    | b + 5 =>
      refine Kr_eq (by rw [x_checked]) (Kr_no _)
theorem kr_measured : ∀ (k b : Nat) (L : Nat → Int32) (σ : MS), Kr dr (x_measured k b L σ) (kr dr σ) := by
  intro k
  induction k with
  | zero => intro b L σ; exact Kr_no _
  | succ k ih =>
    intro b L σ
    match b with
    | 0 =>
      refine Kr_eq (by rw [x_measured]) ?_
      exact Kr_ite (Kr_c rfl (ih _ _ _)) (Kr_no _)
    | 1 =>
      refine Kr_eq (by rw [x_measured]) ?_
      exact Kr_ite (Kr_c rfl (ih _ _ _)) (Kr_ite (Kr_ob (Kr_c rfl (kr_size _ _ _ _)) (fun _ h58 => Kr_ob (Kr_c h58 (kr_height _ _ _ _)) (fun _ h59 => Kr_ite (Kr_c h59 (ih _ _ _)) (Kr_ob (Kr_c h59 (kr_height _ _ _ _)) (fun _ h60 => Kr_c h60 (ih _ _ _)))))) (Kr_no _))
    | 2 =>
      refine Kr_eq (by rw [x_measured]) ?_
      exact Kr_c rfl (ih _ _ _)
    | 3 =>
      refine Kr_eq (by rw [x_measured]) ?_
      exact Kr_c rfl (ih _ _ _)
    | 4 =>
      refine Kr_eq (by rw [x_measured]) ?_
      exact Kr_ite (Kr_c rfl (ih _ _ _)) (Kr_no _)
    | 5 =>
      refine Kr_eq (by rw [x_measured]) ?_
      exact Kr_ite (Kr_c rfl (ih _ _ _)) (Kr_no _)
    | 6 =>
      refine Kr_eq (by rw [x_measured]) ?_
      exact Kr_ob (Kr_c rfl (kr_checked _ _ _ _)) (fun _ h61 => Kr_so h61)
    | b + 7 =>
      refine Kr_eq (by rw [x_measured]) (Kr_no _)
theorem kr_setOf : ∀ (k b : Nat) (L : Nat → Int32) (σ : MS), Kr dr (x_setOf k b L σ) (kr dr σ) := by
  intro k
  induction k with
  | zero => intro b L σ; exact Kr_no _
  | succ k ih =>
    intro b L σ
    match b with
    | 0 =>
      refine Kr_eq (by rw [x_setOf]) ?_
      exact Kr_ob (Kr_c rfl (kr_distinct _ _ _ _)) (fun _ h62 => Kr_c h62 (ih _ _ _))
    | 1 =>
      refine Kr_eq (by rw [x_setOf]) ?_
      exact Kr_ob (Kr_c rfl (kr_make _ _ _ _)) (fun _ h63 => Kr_ite (Kr_c h63 (ih _ _ _)) (Kr_so h63))
    | 2 =>
      refine Kr_eq (by rw [x_setOf]) ?_
      exact Kr_c rfl (ih _ _ _)
    | 3 =>
      refine Kr_eq (by rw [x_setOf]) ?_
      exact Kr_ite (Kr_c rfl (ih _ _ _)) (Kr_ite (Kr_ite (Kr_c rfl (ih _ _ _)) (Kr_no _)) (Kr_no _))
    | 4 =>
      refine Kr_eq (by rw [x_setOf]) ?_
      exact Kr_c rfl (ih _ _ _)
    | 5 =>
      refine Kr_eq (by rw [x_setOf]) ?_
      exact Kr_ob (Kr_c rfl (kr_measured _ _ _ _)) (fun _ h64 => Kr_so h64)
    | b + 6 =>
      refine Kr_eq (by rw [x_setOf]) (Kr_no _)
theorem kr_tupleOf : ∀ (k b : Nat) (L : Nat → Int32) (σ : MS), Kr dr (x_tupleOf k b L σ) (kr dr σ) := by
  intro k
  induction k with
  | zero => intro b L σ; exact Kr_no _
  | succ k ih =>
    intro b L σ
    match b with
    | 0 =>
      refine Kr_eq (by rw [x_tupleOf]) ?_
      exact Kr_c rfl (ih _ _ _)
    | 1 =>
      refine Kr_eq (by rw [x_tupleOf]) ?_
      exact Kr_ite (Kr_c rfl (ih _ _ _)) (Kr_ite (Kr_ite (Kr_c rfl (ih _ _ _)) (Kr_c rfl (ih _ _ _))) (Kr_no _))
    | 2 =>
      refine Kr_eq (by rw [x_tupleOf]) ?_
      exact Kr_c rfl (ih _ _ _)
    | 3 =>
      refine Kr_eq (by rw [x_tupleOf]) ?_
      exact Kr_ob (Kr_c rfl (kr_make _ _ _ _)) (fun _ h65 => Kr_ite (Kr_c h65 (ih _ _ _)) (Kr_so h65))
    | 4 =>
      refine Kr_eq (by rw [x_tupleOf]) ?_
      exact Kr_c rfl (ih _ _ _)
    | 5 =>
      refine Kr_eq (by rw [x_tupleOf]) ?_
      exact Kr_ite (Kr_c rfl (ih _ _ _)) (Kr_ite (Kr_ite (Kr_c rfl (ih _ _ _)) (Kr_no _)) (Kr_no _))
    | 6 =>
      refine Kr_eq (by rw [x_tupleOf]) ?_
      exact Kr_c rfl (ih _ _ _)
    | 7 =>
      refine Kr_eq (by rw [x_tupleOf]) ?_
      exact Kr_ob (Kr_c rfl (kr_measured _ _ _ _)) (fun _ h66 => Kr_so h66)
    | b + 8 =>
      refine Kr_eq (by rw [x_tupleOf]) (Kr_no _)
theorem kr_range : ∀ (k b : Nat) (L : Nat → Int32) (σ : MS), Kr dr (x_range k b L σ) (kr dr σ) := by
  intro k
  induction k with
  | zero => intro b L σ; exact Kr_no _
  | succ k ih =>
    intro b L σ
    match b with
    | 0 =>
      refine Kr_eq (by rw [x_range]) ?_
      exact Kr_ob (Kr_c rfl (kr_pop _ _ _ _)) (fun _ h67 => Kr_ite (Kr_c h67 (ih _ _ _)) (Kr_ob (Kr_c h67 (kr_pop _ _ _ _)) (fun _ h68 => Kr_c h68 (ih _ _ _))))
    | 1 =>
      refine Kr_eq (by rw [x_range]) ?_
      exact Kr_c rfl (ih _ _ _)
    | 2 =>
      refine Kr_eq (by rw [x_range]) ?_
      exact Kr_ob (Kr_c rfl (kr_pop _ _ _ _)) (fun _ h69 => Kr_ob (Kr_c h69 (kr_kind _ _ _ _)) (fun _ h70 => Kr_ite (Kr_ob (Kr_c h70 (kr_kind _ _ _ _)) (fun _ h71 => Kr_ite (Kr_ite (Kr_c h71 (ih _ _ _)) (Kr_ob (Kr_c h71 (kr_kind _ _ _ _)) (fun _ h72 => Kr_ite (Kr_c h72 (ih _ _ _)) (Kr_c h72 (ih _ _ _))))) (Kr_c h71 (ih _ _ _)))) (Kr_c h70 (ih _ _ _))))
    | 3 =>
      refine Kr_eq (by rw [x_range]) ?_
      exact Kr_ob (Kr_c rfl (kr_wrongKind _ _ _ _)) (fun _ h73 => Kr_so h73)
    | 4 =>
      refine Kr_eq (by rw [x_range]) ?_
      exact Kr_ite (Kr_c rfl (ih _ _ _)) (Kr_ob (Kr_c rfl (kr_add _ _ _ _)) (fun _ h74 => Kr_c h74 (ih _ _ _)))
    | 5 =>
      refine Kr_eq (by rw [x_range]) ?_
      exact Kr_ob (Kr_c rfl (kr_small _ _ _ _)) (fun _ h75 => Kr_c h75 (ih _ _ _))
    | 6 =>
      refine Kr_eq (by rw [x_range]) ?_
      exact Kr_ite (Kr_c rfl (ih _ _ _)) (Kr_c rfl (ih _ _ _))
    | 7 =>
      refine Kr_eq (by rw [x_range]) ?_
      exact Kr_c rfl (ih _ _ _)
    | 8 =>
      refine Kr_eq (by rw [x_range]) ?_
      exact Kr_c rfl (ih _ _ _)
    | 9 =>
      refine Kr_eq (by rw [x_range]) ?_
      exact Kr_ite (Kr_c rfl (ih _ _ _)) (Kr_ob (Kr_c rfl (kr_compareWholes _ _ _ _)) (fun _ h76 => Kr_ite (Kr_c h76 (ih _ _ _)) (Kr_c h76 (ih _ _ _))))
    | 10 =>
      refine Kr_eq (by rw [x_range]) ?_
      exact Kr_c rfl (ih _ _ _)
    | 11 =>
      refine Kr_eq (by rw [x_range]) ?_
      exact Kr_ob (Kr_c rfl (kr_signOf _ _ _ _)) (fun _ h77 => Kr_c h77 (ih _ _ _))
    | 12 =>
      refine Kr_eq (by rw [x_range]) ?_
      exact Kr_ite (Kr_c rfl (ih _ _ _)) (Kr_c rfl (ih _ _ _))
    | 13 =>
      refine Kr_eq (by rw [x_range]) ?_
      exact Kr_c rfl (ih _ _ _)
    | 14 =>
      refine Kr_eq (by rw [x_range]) ?_
      exact Kr_c rfl (ih _ _ _)
    | 15 =>
      refine Kr_eq (by rw [x_range]) ?_
      exact Kr_ite (Kr_ite (Kr_c rfl (ih _ _ _)) (Kr_ite (Kr_c rfl (ih _ _ _)) (Kr_ob (Kr_c rfl (kr_compareWholes _ _ _ _)) (fun _ h78 => Kr_ite (Kr_c h78 (ih _ _ _)) (Kr_c h78 (ih _ _ _)))))) (Kr_c rfl (ih _ _ _))
    | 16 =>
      refine Kr_eq (by rw [x_range]) ?_
      exact Kr_ob (Kr_c rfl (kr_compareWholes _ _ _ _)) (fun _ h79 => Kr_ite (Kr_c h79 (ih _ _ _)) (Kr_c h79 (ih _ _ _)))
    | 17 =>
      refine Kr_eq (by rw [x_range]) ?_
      exact Kr_ob (Kr_c rfl (kr_push _ _ _ _)) (fun _ h80 => Kr_ite (Kr_c h80 (ih _ _ _)) (Kr_ob (Kr_c h80 (kr_fail _ _ _ _)) (fun _ h81 => Kr_c h81 (ih _ _ _))))
    | 18 =>
      refine Kr_eq (by rw [x_range]) ?_
      exact Kr_ite (Kr_c rfl (ih _ _ _)) (Kr_ite (Kr_c rfl (ih _ _ _)) (Kr_c rfl (ih _ _ _)))
    | 19 =>
      refine Kr_eq (by rw [x_range]) ?_
      exact Kr_c rfl (ih _ _ _)
    | 20 =>
      refine Kr_eq (by rw [x_range]) ?_
      exact Kr_c rfl (ih _ _ _)
    | 21 =>
      refine Kr_eq (by rw [x_range]) ?_
      exact Kr_ob (Kr_c rfl (kr_add _ _ _ _)) (fun _ h82 => Kr_ite (Kr_c h82 (ih _ _ _)) (Kr_c h82 (ih _ _ _)))
    | 22 =>
      refine Kr_eq (by rw [x_range]) ?_
      exact Kr_c rfl (ih _ _ _)
    | 23 =>
      refine Kr_eq (by rw [x_range]) ?_
      exact Kr_c rfl (ih _ _ _)
    | 24 =>
      refine Kr_eq (by rw [x_range]) ?_
      exact Kr_ite (Kr_c rfl (ih _ _ _)) (Kr_so rfl)
    | 25 =>
      refine Kr_eq (by rw [x_range]) ?_
      exact Kr_ite (Kr_c rfl (ih _ _ _)) (Kr_ob (Kr_c rfl (kr_setOf _ _ _ _)) (fun _ h83 => Kr_c h83 (ih _ _ _)))
    | 26 =>
      refine Kr_eq (by rw [x_range]) ?_
      exact Kr_ob (Kr_c rfl (kr_tupleOf _ _ _ _)) (fun _ h84 => Kr_c h84 (ih _ _ _))
    | 27 =>
      refine Kr_eq (by rw [x_range]) ?_
      exact Kr_so rfl
    | b + 28 =>
      refine Kr_eq (by rw [x_range]) (Kr_no _)
theorem kr_isOver : ∀ (k b : Nat) (L : Nat → Int32) (σ : MS), Kr dr (x_isOver k b L σ) (kr dr σ) := by
  intro k
  induction k with
  | zero => intro b L σ; exact Kr_no _
  | succ k ih =>
    intro b L σ
    match b with
    | 0 =>
      refine Kr_eq (by rw [x_isOver]) ?_
      exact Kr_ite (Kr_c rfl (ih _ _ _)) (Kr_ite (Kr_c rfl (ih _ _ _)) (Kr_ite (Kr_c rfl (ih _ _ _)) (Kr_ite (Kr_c rfl (ih _ _ _)) (Kr_ite (Kr_c rfl (ih _ _ _)) (Kr_ite (Kr_c rfl (ih _ _ _)) (Kr_ite (Kr_c rfl (ih _ _ _)) (Kr_c rfl (ih _ _ _))))))))
    | 1 =>
      refine Kr_eq (by rw [x_isOver]) ?_
      exact Kr_c rfl (ih _ _ _)
    | 2 =>
      refine Kr_eq (by rw [x_isOver]) ?_
      exact Kr_c rfl (ih _ _ _)
    | 3 =>
      refine Kr_eq (by rw [x_isOver]) ?_
      exact Kr_ite (Kr_so rfl) (Kr_no _)
    | b + 4 =>
      refine Kr_eq (by rw [x_isOver]) (Kr_no _)
theorem kr_bindOne : ∀ (k b : Nat) (L : Nat → Int32) (σ : MS), Kr dr (x_bindOne k b L σ) (kr dr σ) := by
  intro k
  induction k with
  | zero => intro b L σ; exact Kr_no _
  | succ k ih =>
    intro b L σ
    match b with
    | 0 =>
      refine Kr_eq (by rw [x_bindOne]) ?_
      exact Kr_ite (Kr_ite (Kr_ite (Kr_ite (Kr_c rfl (ih _ _ _)) (Kr_no _)) (Kr_no _)) (Kr_c rfl (ih _ _ _))) (Kr_no _)
    | 1 =>
      refine Kr_eq (by rw [x_bindOne]) ?_
      exact Kr_ite (Kr_c rfl (ih _ _ _)) (Kr_ite (Kr_ite (Kr_c rfl (ih _ _ _)) (Kr_no _)) (Kr_no _))
    | 2 =>
      refine Kr_eq (by rw [x_bindOne]) ?_
      exact Kr_ite (Kr_ite (Kr_ite (Kr_c rfl (ih _ _ _)) (Kr_no _)) (Kr_no _)) (Kr_no _)
    | 3 =>
      refine Kr_eq (by rw [x_bindOne]) ?_
      exact Kr_so rfl
    | b + 4 =>
      refine Kr_eq (by rw [x_bindOne]) (Kr_no _)
theorem kr_clear : ∀ (k b : Nat) (L : Nat → Int32) (σ : MS), Kr dr (x_clear k b L σ) (kr dr σ) := by
  intro k
  induction k with
  | zero => intro b L σ; exact Kr_no _
  | succ k ih =>
    intro b L σ
    match b with
    | 0 =>
      refine Kr_eq (by rw [x_clear]) ?_
      exact Kr_c rfl (ih _ _ _)
    | 1 =>
      refine Kr_eq (by rw [x_clear]) ?_
      exact Kr_ite (Kr_c rfl (ih _ _ _)) (Kr_ite (Kr_c rfl (ih _ _ _)) (Kr_no _))
    | 2 =>
      refine Kr_eq (by rw [x_clear]) ?_
      exact Kr_ite (Kr_c rfl (ih _ _ _)) (Kr_ob (Kr_c rfl (kr_bindOne _ _ _ _)) (fun _ h85 => Kr_ite (Kr_c h85 (ih _ _ _)) (Kr_no _)))
    | 3 =>
      refine Kr_eq (by rw [x_clear]) ?_
      exact Kr_ite (Kr_c rfl (ih _ _ _)) (Kr_no _)
    | 4 =>
      refine Kr_eq (by rw [x_clear]) ?_
      exact Kr_so rfl
    | b + 5 =>
      refine Kr_eq (by rw [x_clear]) (Kr_no _)
theorem kr_byteString : ∀ (k b : Nat) (L : Nat → Int32) (σ : MS), Kr dr (x_byteString k b L σ) (kr dr σ) := by
  intro k
  induction k with
  | zero => intro b L σ; exact Kr_no _
  | succ k ih =>
    intro b L σ
    match b with
    | 0 =>
      refine Kr_eq (by rw [x_byteString]) ?_
      exact Kr_ob (Kr_c rfl (kr_make _ _ _ _)) (fun _ h86 => Kr_ite (Kr_c h86 (ih _ _ _)) (Kr_so h86))
    | 1 =>
      refine Kr_eq (by rw [x_byteString]) ?_
      exact Kr_ite (Kr_c rfl (ih _ _ _)) (Kr_no _)
    | 2 =>
      refine Kr_eq (by rw [x_byteString]) ?_
      exact Kr_ite (Kr_c rfl (ih _ _ _)) (Kr_no _)
    | 3 =>
      refine Kr_eq (by rw [x_byteString]) ?_
      exact Kr_so rfl
    | b + 4 =>
      refine Kr_eq (by rw [x_byteString]) (Kr_no _)
theorem kr_memberAt : ∀ (k b : Nat) (L : Nat → Int32) (σ : MS), Kr dr (x_memberAt k b L σ) (kr dr σ) := by
  intro k
  induction k with
  | zero => intro b L σ; exact Kr_no _
  | succ k ih =>
    intro b L σ
    match b with
    | 0 =>
      refine Kr_eq (by rw [x_memberAt]) ?_
      exact Kr_ite (Kr_ite (Kr_ite (Kr_ob (Kr_c rfl (kr_byteString _ _ _ _)) (fun _ h87 => Kr_c h87 (ih _ _ _))) (Kr_no _)) (Kr_c rfl (ih _ _ _))) (Kr_no _)
    | 1 =>
      refine Kr_eq (by rw [x_memberAt]) ?_
      exact Kr_ite (Kr_c rfl (ih _ _ _)) (Kr_no _)
    | 2 =>
      refine Kr_eq (by rw [x_memberAt]) ?_
      exact Kr_so rfl
    | b + 3 =>
      refine Kr_eq (by rw [x_memberAt]) (Kr_no _)
theorem kr_bind : ∀ (k b : Nat) (L : Nat → Int32) (σ : MS), Kr dr (x_bind k b L σ) (kr dr σ) := by
  intro k
  induction k with
  | zero => intro b L σ; exact Kr_no _
  | succ k ih =>
    intro b L σ
    match b with
    | 0 =>
      refine Kr_eq (by rw [x_bind]) ?_
      exact Kr_ite (Kr_ite (Kr_ite (Kr_ob (Kr_c rfl (kr_bindOne _ _ _ _)) (fun _ h88 => Kr_so h88)) (Kr_no _)) (Kr_c rfl (ih _ _ _))) (Kr_no _)
    | 1 =>
      refine Kr_eq (by rw [x_bind]) ?_
      exact Kr_ite (Kr_c rfl (ih _ _ _)) (Kr_no _)
    | 2 =>
      refine Kr_eq (by rw [x_bind]) ?_
      exact Kr_ite (Kr_c rfl (ih _ _ _)) (Kr_ite (Kr_c rfl (ih _ _ _)) (Kr_no _))
    | 3 =>
      refine Kr_eq (by rw [x_bind]) ?_
      exact Kr_ob (Kr_c rfl (kr_kind _ _ _ _)) (fun _ h89 => Kr_ite (Kr_ite (Kr_ite (Kr_c h89 (ih _ _ _)) (Kr_c h89 (ih _ _ _))) (Kr_no _)) (Kr_c h89 (ih _ _ _)))
    | 4 =>
      refine Kr_eq (by rw [x_bind]) ?_
      exact Kr_ob (Kr_c rfl (kr_fail _ _ _ _)) (fun _ h90 => Kr_so h90)
    | 5 =>
      refine Kr_eq (by rw [x_bind]) ?_
      exact Kr_ite (Kr_c rfl (ih _ _ _)) (Kr_no _)
    | 6 =>
      refine Kr_eq (by rw [x_bind]) ?_
      exact Kr_ite (Kr_c rfl (ih _ _ _)) (Kr_ite (Kr_ite (Kr_c rfl (ih _ _ _)) (Kr_ite (Kr_c rfl (ih _ _ _)) (Kr_no _))) (Kr_no _))
    | 7 =>
      refine Kr_eq (by rw [x_bind]) ?_
      exact Kr_c rfl (ih _ _ _)
    | 8 =>
      refine Kr_eq (by rw [x_bind]) ?_
      exact Kr_ob (Kr_c rfl (kr_bindOne _ _ _ _)) (fun _ h91 => Kr_ite (Kr_c h91 (ih _ _ _)) (Kr_no _))
    | 9 =>
      refine Kr_eq (by rw [x_bind]) ?_
      exact Kr_so rfl
    | b + 10 =>
      refine Kr_eq (by rw [x_bind]) (Kr_no _)
theorem kr_stepIter : ∀ (k b : Nat) (L : Nat → Int32) (σ : MS), Kr dr (x_stepIter k b L σ) (kr dr σ) := by
  intro k
  induction k with
  | zero => intro b L σ; exact Kr_no _
  | succ k ih =>
    intro b L σ
    match b with
    | 0 =>
      refine Kr_eq (by rw [x_stepIter]) ?_
      exact Kr_ite (Kr_ite (Kr_ite (Kr_ite (Kr_so rfl) (Kr_c rfl (ih _ _ _))) (Kr_no _)) (Kr_no _)) (Kr_no _)
    | 1 =>
      refine Kr_eq (by rw [x_stepIter]) ?_
      exact Kr_ite (Kr_c rfl (ih _ _ _)) (Kr_no _)
    | 2 =>
      refine Kr_eq (by rw [x_stepIter]) ?_
      exact Kr_ob (Kr_c rfl (kr_worked _ _ _ _)) (fun _ h92 => Kr_ite (Kr_ob (Kr_c h92 (kr_memberAt _ _ _ _)) (fun _ h93 => Kr_ob (Kr_c h93 (kr_bind _ _ _ _)) (fun _ h94 => Kr_c h94 (ih _ _ _)))) (Kr_c h92 (ih _ _ _)))
    | 3 =>
      refine Kr_eq (by rw [x_stepIter]) ?_
      exact Kr_ite (Kr_c rfl (ih _ _ _)) (Kr_c rfl (ih _ _ _))
    | 4 =>
      refine Kr_eq (by rw [x_stepIter]) ?_
      exact Kr_c rfl (ih _ _ _)
    | 5 =>
      refine Kr_eq (by rw [x_stepIter]) ?_
      exact Kr_ite (Kr_so rfl) (Kr_no _)
    | b + 6 =>
      refine Kr_eq (by rw [x_stepIter]) (Kr_no _)
theorem kr_isTrue : ∀ (k b : Nat) (L : Nat → Int32) (σ : MS), Kr dr (x_isTrue k b L σ) (kr dr σ) := by
  intro k
  induction k with
  | zero => intro b L σ; exact Kr_no _
  | succ k ih =>
    intro b L σ
    match b with
    | 0 =>
      refine Kr_eq (by rw [x_isTrue]) ?_
      exact Kr_ob (Kr_c rfl (kr_pop _ _ _ _)) (fun _ h95 => Kr_ite (Kr_c h95 (ih _ _ _)) (Kr_ite (Kr_c h95 (ih _ _ _)) (Kr_ob (Kr_c h95 (kr_fail _ _ _ _)) (fun _ h96 => Kr_c h96 (ih _ _ _)))))
    | 1 =>
      refine Kr_eq (by rw [x_isTrue]) ?_
      exact Kr_ite (Kr_c rfl (ih _ _ _)) (Kr_c rfl (ih _ _ _))
    | 2 =>
      refine Kr_eq (by rw [x_isTrue]) ?_
      exact Kr_c rfl (ih _ _ _)
    | 3 =>
      refine Kr_eq (by rw [x_isTrue]) ?_
      exact Kr_ite (Kr_so rfl) (Kr_no _)
    | b + 4 =>
      refine Kr_eq (by rw [x_isTrue]) (Kr_no _)
theorem kr_truth : ∀ (k b : Nat) (L : Nat → Int32) (σ : MS), Kr dr (x_truth k b L σ) (kr dr σ) := by
  intro k
  induction k with
  | zero => intro b L σ; exact Kr_no _
  | succ k ih =>
    intro b L σ
    match b with
    | 0 =>
      refine Kr_eq (by rw [x_truth]) ?_
      exact Kr_ite (Kr_c rfl (ih _ _ _)) (Kr_c rfl (ih _ _ _))
    | 1 =>
      refine Kr_eq (by rw [x_truth]) ?_
      exact Kr_c rfl (ih _ _ _)
    | 2 =>
      refine Kr_eq (by rw [x_truth]) ?_
      exact Kr_so rfl
    | b + 3 =>
      refine Kr_eq (by rw [x_truth]) (Kr_no _)
theorem kr_intOf : ∀ (k b : Nat) (L : Nat → Int32) (J : Nat → Int64) (σ : MS), Kr dr (x_intOf k b L J σ) (kr dr σ) := by
  intro k
  induction k with
  | zero => intro b L J σ; exact Kr_no _
  | succ k ih =>
    intro b L J σ
    match b with
    | 0 =>
      refine Kr_eq (by rw [x_intOf]) ?_
      exact Kr_ite (Kr_c rfl (ih _ _ _ _)) (Kr_no _)
    | 1 =>
      refine Kr_eq (by rw [x_intOf]) ?_
      exact Kr_ite (Kr_c rfl (ih _ _ _ _)) (Kr_ite (Kr_c rfl (ih _ _ _ _)) (Kr_c rfl (ih _ _ _ _)))
    | 2 =>
      refine Kr_eq (by rw [x_intOf]) ?_
      exact Kr_ite (Kr_c rfl (ih _ _ _ _)) (Kr_no _)
    | 3 =>
      refine Kr_eq (by rw [x_intOf]) ?_
      exact Kr_c rfl (ih _ _ _ _)
    | 4 =>
      refine Kr_eq (by rw [x_intOf]) ?_
      exact Kr_ite (Kr_c rfl (ih _ _ _ _)) (Kr_c rfl (ih _ _ _ _))
    | 5 =>
      refine Kr_eq (by rw [x_intOf]) ?_
      exact Kr_c rfl (ih _ _ _ _)
    | 6 =>
      refine Kr_eq (by rw [x_intOf]) ?_
      exact Kr_ob (Kr_c rfl (kr_signOf _ _ _ _)) (fun _ h97 => Kr_ite (Kr_c h97 (ih _ _ _ _)) (Kr_c h97 (ih _ _ _ _)))
    | 7 =>
      refine Kr_eq (by rw [x_intOf]) ?_
      exact Kr_c rfl (ih _ _ _ _)
    | 8 =>
      refine Kr_eq (by rw [x_intOf]) ?_
      exact Kr_so rfl
    | b + 9 =>
      refine Kr_eq (by rw [x_intOf]) (Kr_no _)
theorem kr_isSlice : ∀ (k b : Nat) (L : Nat → Int32) (σ : MS), Kr dr (x_isSlice k b L σ) (kr dr σ) := by
  intro k
  induction k with
  | zero => intro b L σ; exact Kr_no _
  | succ k ih =>
    intro b L σ
    match b with
    | 0 =>
      refine Kr_eq (by rw [x_isSlice]) ?_
      exact Kr_ob (Kr_c rfl (kr_kind _ _ _ _)) (fun _ h98 => Kr_ite (Kr_c h98 (ih _ _ _)) (Kr_ite (Kr_c h98 (ih _ _ _)) (Kr_c h98 (ih _ _ _))))
    | 1 =>
      refine Kr_eq (by rw [x_isSlice]) ?_
      exact Kr_ob (Kr_c rfl (kr_kind _ _ _ _)) (fun _ h99 => Kr_ite (Kr_ob (Kr_c h99 (kr_kind _ _ _ _)) (fun _ h100 => Kr_ite (Kr_c h100 (ih _ _ _)) (Kr_c h100 (ih _ _ _)))) (Kr_c h99 (ih _ _ _)))
    | 2 =>
      refine Kr_eq (by rw [x_isSlice]) ?_
      exact Kr_ob (Kr_c rfl (kr_fail _ _ _ _)) (fun _ h101 => Kr_so h101)
    | 3 =>
      refine Kr_eq (by rw [x_isSlice]) ?_
      exact Kr_ob (Kr_c rfl (kr_intOf _ _ _ _ _)) (fun _ h102 => Kr_c h102 (ih _ _ _))
    | 4 =>
      refine Kr_eq (by rw [x_isSlice]) ?_
      exact Kr_ob (Kr_c rfl (kr_intOf _ _ _ _ _)) (fun _ h103 => Kr_c h103 (ih _ _ _))
    | 5 =>
      refine Kr_eq (by rw [x_isSlice]) ?_
      exact Kr_so rfl
    | b + 6 =>
      refine Kr_eq (by rw [x_isSlice]) (Kr_no _)
theorem kr_isSliceIn : ∀ (k b : Nat) (L : Nat → Int32) (σ : MS), Kr dr (x_isSliceIn k b L σ) (kr dr σ) := by
  intro k
  induction k with
  | zero => intro b L σ; exact Kr_no _
  | succ k ih =>
    intro b L σ
    match b with
    | 0 =>
      refine Kr_eq (by rw [x_isSliceIn]) ?_
      exact Kr_ite (Kr_c rfl (ih _ _ _)) (Kr_ite (Kr_c rfl (ih _ _ _)) (Kr_ite (Kr_ite (Kr_c rfl (ih _ _ _)) (Kr_c rfl (ih _ _ _))) (Kr_no _)))
    | 1 =>
      refine Kr_eq (by rw [x_isSliceIn]) ?_
      exact Kr_ob (Kr_c rfl (kr_fail _ _ _ _)) (fun _ h104 => Kr_so h104)
    | 2 =>
      refine Kr_eq (by rw [x_isSliceIn]) ?_
      exact Kr_so rfl
    | b + 3 =>
      refine Kr_eq (by rw [x_isSliceIn]) (Kr_no _)
theorem kr_stringOf__28 : ∀ (k b : Nat) (L : Nat → Int32) (σ : MS), Kr dr (x_stringOf__28 k b L σ) (kr dr σ) := by
  intro k
  induction k with
  | zero => intro b L σ; exact Kr_no _
  | succ k ih =>
    intro b L σ
    match b with
    | 0 =>
      refine Kr_eq (by rw [x_stringOf__28]) ?_
      exact Kr_ite (Kr_no _) (Kr_ite (Kr_c rfl (ih _ _ _)) (Kr_ob (Kr_c rfl (kr_fail _ _ _ _)) (fun _ h105 => Kr_so h105)))
    | 1 =>
      refine Kr_eq (by rw [x_stringOf__28]) ?_
      exact Kr_ob (Kr_c rfl (kr_make _ _ _ _)) (fun _ h106 => Kr_c h106 (ih _ _ _))
    | 2 =>
      refine Kr_eq (by rw [x_stringOf__28]) ?_
      exact Kr_ite (Kr_c rfl (ih _ _ _)) (Kr_ite (Kr_ite (Kr_ite (Kr_c rfl (ih _ _ _)) (Kr_no _)) (Kr_no _)) (Kr_c rfl (ih _ _ _)))
    | 3 =>
      refine Kr_eq (by rw [x_stringOf__28]) ?_
      exact Kr_c rfl (ih _ _ _)
    | 4 =>
      refine Kr_eq (by rw [x_stringOf__28]) ?_
      exact Kr_ite (Kr_no _) (Kr_ite (Kr_c rfl (ih _ _ _)) (Kr_no _))
    | 5 =>
      refine Kr_eq (by rw [x_stringOf__28]) ?_
      exact Kr_so rfl
    | b + 6 =>
      refine Kr_eq (by rw [x_stringOf__28]) (Kr_no _)
theorem kr_slice : ∀ (k b : Nat) (L : Nat → Int32) (σ : MS), Kr dr (x_slice k b L σ) (kr dr σ) := by
  intro k
  induction k with
  | zero => intro b L σ; exact Kr_no _
  | succ k ih =>
    intro b L σ
    match b with
    | 0 =>
      refine Kr_eq (by rw [x_slice]) ?_
      exact Kr_ob (Kr_c rfl (kr_isSlice _ _ _ _)) (fun _ h107 => Kr_ite (Kr_c h107 (ih _ _ _)) (Kr_ob (Kr_c h107 (kr_isSliceIn _ _ _ _)) (fun _ h108 => Kr_ite (Kr_c h108 (ih _ _ _)) (Kr_c h108 (ih _ _ _)))))
    | 1 =>
      refine Kr_eq (by rw [x_slice]) ?_
      exact Kr_so rfl
    | 2 =>
      refine Kr_eq (by rw [x_slice]) ?_
      exact Kr_ite (Kr_ite (Kr_ob (Kr_c rfl (kr_stringOf__28 _ _ _ _)) (fun _ h109 => Kr_so h109)) (Kr_c rfl (ih _ _ _))) (Kr_no _)
    | 3 =>
      refine Kr_eq (by rw [x_slice]) ?_
      exact Kr_c rfl (ih _ _ _)
    | 4 =>
      refine Kr_eq (by rw [x_slice]) ?_
      exact Kr_ite (Kr_c rfl (ih _ _ _)) (Kr_ite (Kr_ob (Kr_c rfl (kr_push _ _ _ _)) (fun _ h110 => Kr_c h110 (ih _ _ _))) (Kr_no _))
    | 5 =>
      refine Kr_eq (by rw [x_slice]) ?_
      exact Kr_ob (Kr_c rfl (kr_tupleOf _ _ _ _)) (fun _ h111 => Kr_so h111)
    | b + 6 =>
      refine Kr_eq (by rw [x_slice]) (Kr_no _)
theorem kr_isMap : ∀ (k b : Nat) (L : Nat → Int32) (σ : MS), Kr dr (x_isMap k b L σ) (kr dr σ) := by
  intro k
  induction k with
  | zero => intro b L σ; exact Kr_no _
  | succ k ih =>
    intro b L σ
    match b with
    | 0 =>
      refine Kr_eq (by rw [x_isMap]) ?_
      exact Kr_ob (Kr_c rfl (kr_kind _ _ _ _)) (fun _ h112 => Kr_ite (Kr_c h112 (ih _ _ _)) (Kr_c h112 (ih _ _ _)))
    | 1 =>
      refine Kr_eq (by rw [x_isMap]) ?_
      exact Kr_c rfl (ih _ _ _)
    | 2 =>
      refine Kr_eq (by rw [x_isMap]) ?_
      exact Kr_c rfl (ih _ _ _)
    | 3 =>
      refine Kr_eq (by rw [x_isMap]) ?_
      exact Kr_ite (Kr_c rfl (ih _ _ _)) (Kr_ite (Kr_ite (Kr_c rfl (ih _ _ _)) (Kr_ite (Kr_ob (Kr_c rfl (kr_kind _ _ _ _)) (fun _ h113 => Kr_ite (Kr_ite (Kr_ite (Kr_c h113 (ih _ _ _)) (Kr_c h113 (ih _ _ _))) (Kr_no _)) (Kr_c h113 (ih _ _ _)))) (Kr_no _))) (Kr_no _))
    | 4 =>
      refine Kr_eq (by rw [x_isMap]) ?_
      exact Kr_c rfl (ih _ _ _)
    | 5 =>
      refine Kr_eq (by rw [x_isMap]) ?_
      exact Kr_c rfl (ih _ _ _)
    | 6 =>
      refine Kr_eq (by rw [x_isMap]) ?_
      exact Kr_ite (Kr_so rfl) (Kr_no _)
    | b + 7 =>
      refine Kr_eq (by rw [x_isMap]) (Kr_no _)
theorem kr_partAt : ∀ (k b : Nat) (L : Nat → Int32) (σ : MS), Kr dr (x_partAt k b L σ) (kr dr σ) := by
  intro k
  induction k with
  | zero => intro b L σ; exact Kr_no _
  | succ k ih =>
    intro b L σ
    match b with
    | 0 =>
      refine Kr_eq (by rw [x_partAt]) ?_
      exact Kr_ob (Kr_c rfl (kr_kind _ _ _ _)) (fun _ h114 => Kr_ite (Kr_c h114 (ih _ _ _)) (Kr_ite (Kr_c h114 (ih _ _ _)) (Kr_c h114 (ih _ _ _))))
    | 1 =>
      refine Kr_eq (by rw [x_partAt]) ?_
      exact Kr_ob (Kr_c rfl (kr_kind _ _ _ _)) (fun _ h115 => Kr_ite (Kr_c h115 (ih _ _ _)) (Kr_ob (Kr_c h115 (kr_wrongKind _ _ _ _)) (fun _ h116 => Kr_so h116)))
    | 2 =>
      refine Kr_eq (by rw [x_partAt]) ?_
      exact Kr_ob (Kr_c rfl (kr_intOf _ _ _ _ _)) (fun _ h117 => Kr_ite (Kr_c h117 (ih _ _ _)) (Kr_ob (Kr_c h117 (kr_fail _ _ _ _)) (fun _ h118 => Kr_so h118)))
    | 3 =>
      refine Kr_eq (by rw [x_partAt]) ?_
      exact Kr_ite (Kr_ite (Kr_c rfl (ih _ _ _)) (Kr_c rfl (ih _ _ _))) (Kr_no _)
    | 4 =>
      refine Kr_eq (by rw [x_partAt]) ?_
      exact Kr_ob (Kr_c rfl (kr_memberAt _ _ _ _)) (fun _ h119 => Kr_c h119 (ih _ _ _))
    | 5 =>
      refine Kr_eq (by rw [x_partAt]) ?_
      exact Kr_so rfl
    | 6 =>
      refine Kr_eq (by rw [x_partAt]) ?_
      exact Kr_ob (Kr_c rfl (kr_isMap _ _ _ _)) (fun _ h120 => Kr_ite (Kr_ob (Kr_c h120 (kr_wrongKind _ _ _ _)) (fun _ h121 => Kr_so h121)) (Kr_c h120 (ih _ _ _)))
    | 7 =>
      refine Kr_eq (by rw [x_partAt]) ?_
      exact Kr_c rfl (ih _ _ _)
    | 8 =>
      refine Kr_eq (by rw [x_partAt]) ?_
      exact Kr_ite (Kr_ite (Kr_c rfl (ih _ _ _)) (Kr_ite (Kr_ite (Kr_ob (Kr_c rfl (kr_compare _ _ _ _)) (fun _ h122 => Kr_ite (Kr_ite (Kr_c h122 (ih _ _ _)) (Kr_no _)) (Kr_c h122 (ih _ _ _)))) (Kr_no _)) (Kr_no _))) (Kr_no _)
    | 9 =>
      refine Kr_eq (by rw [x_partAt]) ?_
      exact Kr_c rfl (ih _ _ _)
    | 10 =>
      refine Kr_eq (by rw [x_partAt]) ?_
      exact Kr_ite (Kr_c rfl (ih _ _ _)) (Kr_c rfl (ih _ _ _))
    | 11 =>
      refine Kr_eq (by rw [x_partAt]) ?_
      exact Kr_c rfl (ih _ _ _)
    | 12 =>
      refine Kr_eq (by rw [x_partAt]) ?_
      exact Kr_so rfl
    | b + 13 =>
      refine Kr_eq (by rw [x_partAt]) (Kr_no _)
theorem kr_image : ∀ (k b : Nat) (L : Nat → Int32) (σ : MS), Kr dr (x_image k b L σ) (kr dr σ) := by
  intro k
  induction k with
  | zero => intro b L σ; exact Kr_no _
  | succ k ih =>
    intro b L σ
    match b with
    | 0 =>
      refine Kr_eq (by rw [x_image]) ?_
      exact Kr_ob (Kr_c rfl (kr_isMap _ _ _ _)) (fun _ h123 => Kr_ite (Kr_ob (Kr_c h123 (kr_wrongKind _ _ _ _)) (fun _ h124 => Kr_so h124)) (Kr_c h123 (ih _ _ _)))
    | 1 =>
      refine Kr_eq (by rw [x_image]) ?_
      exact Kr_c rfl (ih _ _ _)
    | 2 =>
      refine Kr_eq (by rw [x_image]) ?_
      exact Kr_ite (Kr_ite (Kr_c rfl (ih _ _ _)) (Kr_ite (Kr_ite (Kr_ob (Kr_c rfl (kr_compare _ _ _ _)) (fun _ h125 => Kr_ite (Kr_ite (Kr_ob (Kr_c h125 (kr_push _ _ _ _)) (fun _ h126 => Kr_c h126 (ih _ _ _))) (Kr_no _)) (Kr_c h125 (ih _ _ _)))) (Kr_no _)) (Kr_no _))) (Kr_no _)
    | 3 =>
      refine Kr_eq (by rw [x_image]) ?_
      exact Kr_c rfl (ih _ _ _)
    | 4 =>
      refine Kr_eq (by rw [x_image]) ?_
      exact Kr_ob (Kr_c rfl (kr_setOf _ _ _ _)) (fun _ h127 => Kr_so h127)
    | b + 5 =>
      refine Kr_eq (by rw [x_image]) (Kr_no _)
theorem kr_stringOf__51 : ∀ (k b : Nat) (L : Nat → Int32) (σ : MS), Kr dr (x_stringOf__51 k b L σ) (kr dr σ) := by
  intro k
  induction k with
  | zero => intro b L σ; exact Kr_no _
  | succ k ih =>
    intro b L σ
    match b with
    | 0 =>
      refine Kr_eq (by rw [x_stringOf__51]) ?_
      exact Kr_ite (Kr_no _) (Kr_ite (Kr_c rfl (ih _ _ _)) (Kr_ob (Kr_c rfl (kr_fail _ _ _ _)) (fun _ h128 => Kr_so h128)))
    | 1 =>
      refine Kr_eq (by rw [x_stringOf__51]) ?_
      exact Kr_ob (Kr_c rfl (kr_make _ _ _ _)) (fun _ h129 => Kr_c h129 (ih _ _ _))
    | 2 =>
      refine Kr_eq (by rw [x_stringOf__51]) ?_
      exact Kr_ite (Kr_c rfl (ih _ _ _)) (Kr_ite (Kr_ite (Kr_ite (Kr_c rfl (ih _ _ _)) (Kr_no _)) (Kr_no _)) (Kr_c rfl (ih _ _ _)))
    | 3 =>
      refine Kr_eq (by rw [x_stringOf__51]) ?_
      exact Kr_c rfl (ih _ _ _)
    | 4 =>
      refine Kr_eq (by rw [x_stringOf__51]) ?_
      exact Kr_ite (Kr_no _) (Kr_ite (Kr_c rfl (ih _ _ _)) (Kr_no _))
    | 5 =>
      refine Kr_eq (by rw [x_stringOf__51]) ?_
      exact Kr_so rfl
    | b + 6 =>
      refine Kr_eq (by rw [x_stringOf__51]) (Kr_no _)
theorem kr_joined : ∀ (k b : Nat) (L : Nat → Int32) (σ : MS), Kr dr (x_joined k b L σ) (kr dr σ) := by
  intro k
  induction k with
  | zero => intro b L σ; exact Kr_no _
  | succ k ih =>
    intro b L σ
    match b with
    | 0 =>
      refine Kr_eq (by rw [x_joined]) ?_
      exact Kr_ite (Kr_ite (Kr_c rfl (ih _ _ _)) (Kr_no _)) (Kr_no _)
    | 1 =>
      refine Kr_eq (by rw [x_joined]) ?_
      exact Kr_ite (Kr_c rfl (ih _ _ _)) (Kr_ite (Kr_ite (Kr_c rfl (ih _ _ _)) (Kr_no _)) (Kr_no _))
    | 2 =>
      refine Kr_eq (by rw [x_joined]) ?_
      exact Kr_c rfl (ih _ _ _)
    | 3 =>
      refine Kr_eq (by rw [x_joined]) ?_
      exact Kr_c rfl (ih _ _ _)
    | 4 =>
      refine Kr_eq (by rw [x_joined]) ?_
      exact Kr_ite (Kr_c rfl (ih _ _ _)) (Kr_ite (Kr_ite (Kr_c rfl (ih _ _ _)) (Kr_no _)) (Kr_no _))
    | 5 =>
      refine Kr_eq (by rw [x_joined]) ?_
      exact Kr_c rfl (ih _ _ _)
    | 6 =>
      refine Kr_eq (by rw [x_joined]) ?_
      exact Kr_ob (Kr_c rfl (kr_stringOf__51 _ _ _ _)) (fun _ h130 => Kr_so h130)
    | b + 7 =>
      refine Kr_eq (by rw [x_joined]) (Kr_no _)
theorem kr_plus : ∀ (k b : Nat) (L : Nat → Int32) (σ : MS), Kr dr (x_plus k b L σ) (kr dr σ) := by
  intro k
  induction k with
  | zero => intro b L σ; exact Kr_no _
  | succ k ih =>
    intro b L σ
    match b with
    | 0 =>
      refine Kr_eq (by rw [x_plus]) ?_
      exact Kr_ob (Kr_c rfl (kr_kind _ _ _ _)) (fun _ h131 => Kr_ob (Kr_c h131 (kr_kind _ _ _ _)) (fun _ h132 => Kr_ite (Kr_ite (Kr_c h132 (ih _ _ _)) (Kr_ite (Kr_c h132 (ih _ _ _)) (Kr_c h132 (ih _ _ _)))) (Kr_c h132 (ih _ _ _))))
    | 1 =>
      refine Kr_eq (by rw [x_plus]) ?_
      exact Kr_ob (Kr_c rfl (kr_wrongKind _ _ _ _)) (fun _ h133 => Kr_so h133)
    | 2 =>
      refine Kr_eq (by rw [x_plus]) ?_
      exact Kr_ite (Kr_ob (Kr_c rfl (kr_add _ _ _ _)) (fun _ h134 => Kr_so h134)) (Kr_c rfl (ih _ _ _))
    | 3 =>
      refine Kr_eq (by rw [x_plus]) ?_
      exact Kr_ite (Kr_ob (Kr_c rfl (kr_joined _ _ _ _)) (fun _ h135 => Kr_so h135)) (Kr_c rfl (ih _ _ _))
    | 4 =>
      refine Kr_eq (by rw [x_plus]) ?_
      exact Kr_c rfl (ih _ _ _)
    | 5 =>
      refine Kr_eq (by rw [x_plus]) ?_
      exact Kr_ite (Kr_ite (Kr_c rfl (ih _ _ _)) (Kr_ite (Kr_ob (Kr_c rfl (kr_push _ _ _ _)) (fun _ h136 => Kr_c h136 (ih _ _ _))) (Kr_no _))) (Kr_no _)
    | 6 =>
      refine Kr_eq (by rw [x_plus]) ?_
      exact Kr_c rfl (ih _ _ _)
    | 7 =>
      refine Kr_eq (by rw [x_plus]) ?_
      exact Kr_ite (Kr_ite (Kr_c rfl (ih _ _ _)) (Kr_ite (Kr_ob (Kr_c rfl (kr_push _ _ _ _)) (fun _ h137 => Kr_c h137 (ih _ _ _))) (Kr_no _))) (Kr_no _)
    | 8 =>
      refine Kr_eq (by rw [x_plus]) ?_
      exact Kr_ite (Kr_ob (Kr_c rfl (kr_setOf _ _ _ _)) (fun _ h138 => Kr_c h138 (ih _ _ _))) (Kr_c rfl (ih _ _ _))
    | 9 =>
      refine Kr_eq (by rw [x_plus]) ?_
      exact Kr_ob (Kr_c rfl (kr_tupleOf _ _ _ _)) (fun _ h139 => Kr_c h139 (ih _ _ _))
    | 10 =>
      refine Kr_eq (by rw [x_plus]) ?_
      exact Kr_so rfl
    | b + 11 =>
      refine Kr_eq (by rw [x_plus]) (Kr_no _)
theorem kr_has : ∀ (k b : Nat) (L : Nat → Int32) (σ : MS), Kr dr (x_has k b L σ) (kr dr σ) := by
  intro k
  induction k with
  | zero => intro b L σ; exact Kr_no _
  | succ k ih =>
    intro b L σ
    match b with
    | 0 =>
      refine Kr_eq (by rw [x_has]) ?_
      exact Kr_ite (Kr_c rfl (ih _ _ _)) (Kr_no _)
    | 1 =>
      refine Kr_eq (by rw [x_has]) ?_
      exact Kr_ite (Kr_c rfl (ih _ _ _)) (Kr_ite (Kr_no _) (Kr_ite (Kr_ob (Kr_c rfl (kr_compare _ _ _ _)) (fun _ h140 => Kr_ite (Kr_so h140) (Kr_c h140 (ih _ _ _)))) (Kr_no _)))
    | 2 =>
      refine Kr_eq (by rw [x_has]) ?_
      exact Kr_ite (Kr_c rfl (ih _ _ _)) (Kr_c rfl (ih _ _ _))
    | 3 =>
      refine Kr_eq (by rw [x_has]) ?_
      exact Kr_c rfl (ih _ _ _)
    | 4 =>
      refine Kr_eq (by rw [x_has]) ?_
      exact Kr_ite (Kr_c rfl (ih _ _ _)) (Kr_c rfl (ih _ _ _))
    | 5 =>
      refine Kr_eq (by rw [x_has]) ?_
      exact Kr_c rfl (ih _ _ _)
    | 6 =>
      refine Kr_eq (by rw [x_has]) ?_
      exact Kr_c rfl (ih _ _ _)
    | 7 =>
      refine Kr_eq (by rw [x_has]) ?_
      exact Kr_so rfl
    | b + 8 =>
      refine Kr_eq (by rw [x_has]) (Kr_no _)
theorem kr_sift : ∀ (k b : Nat) (L : Nat → Int32) (σ : MS), Kr dr (x_sift k b L σ) (kr dr σ) := by
  intro k
  induction k with
  | zero => intro b L σ; exact Kr_no _
  | succ k ih =>
    intro b L σ
    match b with
    | 0 =>
      refine Kr_eq (by rw [x_sift]) ?_
      exact Kr_c rfl (ih _ _ _)
    | 1 =>
      refine Kr_eq (by rw [x_sift]) ?_
      exact Kr_ite (Kr_ite (Kr_c rfl (ih _ _ _)) (Kr_ite (Kr_ob (Kr_c rfl (kr_has _ _ _ _)) (fun _ h141 => Kr_ite (Kr_ite (Kr_ob (Kr_c h141 (kr_push _ _ _ _)) (fun _ h142 => Kr_c h142 (ih _ _ _))) (Kr_no _)) (Kr_c h141 (ih _ _ _)))) (Kr_no _))) (Kr_no _)
    | 2 =>
      refine Kr_eq (by rw [x_sift]) ?_
      exact Kr_c rfl (ih _ _ _)
    | 3 =>
      refine Kr_eq (by rw [x_sift]) ?_
      exact Kr_ob (Kr_c rfl (kr_setOf _ _ _ _)) (fun _ h143 => Kr_so h143)
    | b + 4 =>
      refine Kr_eq (by rw [x_sift]) (Kr_no _)
theorem kr_multiply : ∀ (k b : Nat) (L : Nat → Int32) (J : Nat → Int64) (σ : MS), Kr dr (x_multiply k b L J σ) (kr dr σ) := by
  intro k
  induction k with
  | zero => intro b L J σ; exact Kr_no _
  | succ k ih =>
    intro b L J σ
    match b with
    | 0 =>
      refine Kr_eq (by rw [x_multiply]) ?_
      exact Kr_ob (Kr_c rfl (kr_loadA _ _ _ _)) (fun _ h144 => Kr_ob (Kr_c h144 (kr_loadB _ _ _ _)) (fun _ h145 => Kr_c h145 (ih _ _ _ _)))
    | 1 =>
      refine Kr_eq (by rw [x_multiply]) ?_
      exact Kr_c rfl (ih _ _ _ _)
    | 2 =>
      refine Kr_eq (by rw [x_multiply]) ?_
      exact Kr_ite (Kr_c rfl (ih _ _ _ _)) (Kr_ite (Kr_c rfl (ih _ _ _ _)) (Kr_no _))
    | 3 =>
      refine Kr_eq (by rw [x_multiply]) ?_
      exact Kr_c rfl (ih _ _ _ _)
    | 4 =>
      refine Kr_eq (by rw [x_multiply]) ?_
      exact Kr_c rfl (ih _ _ _ _)
    | 5 =>
      refine Kr_eq (by rw [x_multiply]) ?_
      exact Kr_ite (Kr_c rfl (ih _ _ _ _)) (Kr_c rfl (ih _ _ _ _))
    | 6 =>
      refine Kr_eq (by rw [x_multiply]) ?_
      exact Kr_ite (Kr_c rfl (ih _ _ _ _)) (Kr_ite (Kr_ite (Kr_ite (Kr_ite (Kr_c rfl (ih _ _ _ _)) (Kr_no _)) (Kr_no _)) (Kr_no _)) (Kr_no _))
    | 7 =>
      refine Kr_eq (by rw [x_multiply]) ?_
      exact Kr_c rfl (ih _ _ _ _)
    | 8 =>
      refine Kr_eq (by rw [x_multiply]) ?_
      exact Kr_ite (Kr_c rfl (ih _ _ _ _)) (Kr_no _)
    | 9 =>
      refine Kr_eq (by rw [x_multiply]) ?_
      exact Kr_c rfl (ih _ _ _ _)
    | 10 =>
      refine Kr_eq (by rw [x_multiply]) ?_
      exact Kr_ob (Kr_c rfl (kr_signOf _ _ _ _)) (fun _ h146 => Kr_ob (Kr_c h146 (kr_signOf _ _ _ _)) (fun _ h147 => Kr_ob (Kr_c h147 (kr_wholeOf _ _ _ _)) (fun _ h148 => Kr_so h148)))
    | b + 11 =>
      refine Kr_eq (by rw [x_multiply]) (Kr_no _)
theorem kr_repeat : ∀ (k b : Nat) (L : Nat → Int32) (σ : MS), Kr dr (x_repeat k b L σ) (kr dr σ) := by
  intro k
  induction k with
  | zero => intro b L σ; exact Kr_no _
  | succ k ih =>
    intro b L σ
    match b with
    | 0 =>
      refine Kr_eq (by rw [x_repeat]) ?_
      exact Kr_ob (Kr_c rfl (kr_signOf _ _ _ _)) (fun _ h149 => Kr_ite (Kr_c h149 (ih _ _ _)) (Kr_ob (Kr_c h149 (kr_fail _ _ _ _)) (fun _ h150 => Kr_so h150)))
    | 1 =>
      refine Kr_eq (by rw [x_repeat]) ?_
      exact Kr_ite (Kr_ite (Kr_c rfl (ih _ _ _)) (Kr_c rfl (ih _ _ _))) (Kr_no _)
    | 2 =>
      refine Kr_eq (by rw [x_repeat]) ?_
      exact Kr_ob (Kr_c rfl (kr_intOf _ _ _ _ _)) (fun _ h151 => Kr_c h151 (ih _ _ _))
    | 3 =>
      refine Kr_eq (by rw [x_repeat]) ?_
      exact Kr_ite (Kr_c rfl (ih _ _ _)) (Kr_ob (Kr_c rfl (kr_fail _ _ _ _)) (fun _ h152 => Kr_so h152))
    | 4 =>
      refine Kr_eq (by rw [x_repeat]) ?_
      exact Kr_ite (Kr_ite (Kr_c rfl (ih _ _ _)) (Kr_c rfl (ih _ _ _))) (Kr_no _)
    | 5 =>
      refine Kr_eq (by rw [x_repeat]) ?_
      exact Kr_ite (Kr_c rfl (ih _ _ _)) (Kr_ite (Kr_no _) (Kr_ite (Kr_ite (Kr_c rfl (ih _ _ _)) (Kr_no _)) (Kr_no _)))
    | 6 =>
      refine Kr_eq (by rw [x_repeat]) ?_
      exact Kr_c rfl (ih _ _ _)
    | 7 =>
      refine Kr_eq (by rw [x_repeat]) ?_
      exact Kr_ob (Kr_c rfl (kr_stringOf__51 _ _ _ _)) (fun _ h153 => Kr_so h153)
    | 8 =>
      refine Kr_eq (by rw [x_repeat]) ?_
      exact Kr_c rfl (ih _ _ _)
    | 9 =>
      refine Kr_eq (by rw [x_repeat]) ?_
      exact Kr_ite (Kr_c rfl (ih _ _ _)) (Kr_ite (Kr_no _) (Kr_ite (Kr_ob (Kr_c rfl (kr_push _ _ _ _)) (fun _ h154 => Kr_c h154 (ih _ _ _))) (Kr_no _)))
    | 10 =>
      refine Kr_eq (by rw [x_repeat]) ?_
      exact Kr_ob (Kr_c rfl (kr_tupleOf _ _ _ _)) (fun _ h155 => Kr_so h155)
    | b + 11 =>
      refine Kr_eq (by rw [x_repeat]) (Kr_no _)
theorem kr_rowsTimes : ∀ (k b : Nat) (L : Nat → Int32) (J : Nat → Int64) (σ : MS), Kr dr (x_rowsTimes k b L J σ) (kr dr σ) := by
  intro k
  induction k with
  | zero => intro b L J σ; exact Kr_no _
  | succ k ih =>
    intro b L J σ
    match b with
    | 0 =>
      refine Kr_eq (by rw [x_rowsTimes]) ?_
      exact Kr_c rfl (ih _ _ _ _)
    | 1 =>
      refine Kr_eq (by rw [x_rowsTimes]) ?_
      exact Kr_c rfl (ih _ _ _ _)
    | 2 =>
      refine Kr_eq (by rw [x_rowsTimes]) ?_
      exact Kr_ite (Kr_c rfl (ih _ _ _ _)) (Kr_ite (Kr_c rfl (ih _ _ _ _)) (Kr_no _))
    | 3 =>
      refine Kr_eq (by rw [x_rowsTimes]) ?_
      exact Kr_c rfl (ih _ _ _ _)
    | 4 =>
      refine Kr_eq (by rw [x_rowsTimes]) ?_
      exact Kr_c rfl (ih _ _ _ _)
    | 5 =>
      refine Kr_eq (by rw [x_rowsTimes]) ?_
      exact Kr_ite (Kr_c rfl (ih _ _ _ _)) (Kr_c rfl (ih _ _ _ _))
    | 6 =>
      refine Kr_eq (by rw [x_rowsTimes]) ?_
      exact Kr_ite (Kr_c rfl (ih _ _ _ _)) (Kr_ite (Kr_ite (Kr_ite (Kr_ite (Kr_c rfl (ih _ _ _ _)) (Kr_no _)) (Kr_no _)) (Kr_no _)) (Kr_no _))
    | 7 =>
      refine Kr_eq (by rw [x_rowsTimes]) ?_
      exact Kr_c rfl (ih _ _ _ _)
    | 8 =>
      refine Kr_eq (by rw [x_rowsTimes]) ?_
      exact Kr_ite (Kr_c rfl (ih _ _ _ _)) (Kr_no _)
    | 9 =>
      refine Kr_eq (by rw [x_rowsTimes]) ?_
      exact Kr_c rfl (ih _ _ _ _)
    | 10 =>
      refine Kr_eq (by rw [x_rowsTimes]) ?_
      exact Kr_ite (Kr_c rfl (ih _ _ _ _)) (Kr_ite (Kr_ite (Kr_c rfl (ih _ _ _ _)) (Kr_c rfl (ih _ _ _ _))) (Kr_no _))
    | 11 =>
      refine Kr_eq (by rw [x_rowsTimes]) ?_
      exact Kr_so rfl
    | b + 12 =>
      refine Kr_eq (by rw [x_rowsTimes]) (Kr_no _)
theorem kr_raise : ∀ (k b : Nat) (L : Nat → Int32) (σ : MS), Kr dr (x_raise k b L σ) (kr dr σ) := by
  intro k
  induction k with
  | zero => intro b L σ; exact Kr_no _
  | succ k ih =>
    intro b L σ
    match b with
    | 0 =>
      refine Kr_eq (by rw [x_raise]) ?_
      exact Kr_ob (Kr_c rfl (kr_signOf _ _ _ _)) (fun _ h156 => Kr_ite (Kr_c h156 (ih _ _ _)) (Kr_ob (Kr_c h156 (kr_fail _ _ _ _)) (fun _ h157 => Kr_so h157)))
    | 1 =>
      refine Kr_eq (by rw [x_raise]) ?_
      exact Kr_ob (Kr_c rfl (kr_intOf _ _ _ _ _)) (fun _ h158 => Kr_ite (Kr_ob (Kr_c h158 (kr_small _ _ _ _)) (fun _ h159 => Kr_so h159)) (Kr_c h158 (ih _ _ _)))
    | 2 =>
      refine Kr_eq (by rw [x_raise]) ?_
      exact Kr_ite (Kr_ite (Kr_c rfl (ih _ _ _)) (Kr_ite (Kr_ite (Kr_c rfl (ih _ _ _)) (Kr_c rfl (ih _ _ _))) (Kr_no _))) (Kr_no _)
    | 3 =>
      refine Kr_eq (by rw [x_raise]) ?_
      exact Kr_c rfl (ih _ _ _)
    | 4 =>
      refine Kr_eq (by rw [x_raise]) ?_
      exact Kr_ite (Kr_ite (Kr_c rfl (ih _ _ _)) (Kr_ite (Kr_ite (Kr_ite (Kr_ite (Kr_c rfl (ih _ _ _)) (Kr_c rfl (ih _ _ _))) (Kr_no _)) (Kr_c rfl (ih _ _ _))) (Kr_no _))) (Kr_no _)
    | 5 =>
      refine Kr_eq (by rw [x_raise]) ?_
      exact Kr_ob (Kr_c rfl (kr_signOf _ _ _ _)) (fun _ h160 => Kr_ite (Kr_c h160 (ih _ _ _)) (Kr_ite (Kr_c h160 (ih _ _ _)) (Kr_c h160 (ih _ _ _))))
    | 6 =>
      refine Kr_eq (by rw [x_raise]) ?_
      exact Kr_c rfl (ih _ _ _)
    | 7 =>
      refine Kr_eq (by rw [x_raise]) ?_
      exact Kr_ob (Kr_c rfl (kr_small _ _ _ _)) (fun _ h161 => Kr_c h161 (ih _ _ _))
    | 8 =>
      refine Kr_eq (by rw [x_raise]) ?_
      exact Kr_so rfl
    | 9 =>
      refine Kr_eq (by rw [x_raise]) ?_
      exact Kr_ob (Kr_c rfl (kr_loadA _ _ _ _)) (fun _ h162 => Kr_c h162 (ih _ _ _))
    | 10 =>
      refine Kr_eq (by rw [x_raise]) ?_
      exact Kr_ite (Kr_c rfl (ih _ _ _)) (Kr_ite (Kr_ite (Kr_c rfl (ih _ _ _)) (Kr_no _)) (Kr_no _))
    | 11 =>
      refine Kr_eq (by rw [x_raise]) ?_
      exact Kr_c rfl (ih _ _ _)
    | 12 =>
      refine Kr_eq (by rw [x_raise]) ?_
      exact Kr_c rfl (ih _ _ _)
    | 13 =>
      refine Kr_eq (by rw [x_raise]) ?_
      exact Kr_ite (Kr_c rfl (ih _ _ _)) (Kr_ite (Kr_ob (Kr_c rfl (kr_rowsTimes _ _ _ _ _)) (fun _ h163 => Kr_ite (Kr_c h163 (ih _ _ _)) (Kr_ob (Kr_c h163 (kr_fail _ _ _ _)) (fun _ h164 => Kr_c h164 (ih _ _ _))))) (Kr_c rfl (ih _ _ _)))
    | 14 =>
      refine Kr_eq (by rw [x_raise]) ?_
      exact Kr_c rfl (ih _ _ _)
    | 15 =>
      refine Kr_eq (by rw [x_raise]) ?_
      exact Kr_ite (Kr_c rfl (ih _ _ _)) (Kr_ite (Kr_ite (Kr_c rfl (ih _ _ _)) (Kr_no _)) (Kr_no _))
    | 16 =>
      refine Kr_eq (by rw [x_raise]) ?_
      exact Kr_c rfl (ih _ _ _)
    | 17 =>
      refine Kr_eq (by rw [x_raise]) ?_
      exact Kr_c rfl (ih _ _ _)
    | 18 =>
      refine Kr_eq (by rw [x_raise]) ?_
      exact Kr_ite (Kr_c rfl (ih _ _ _)) (Kr_so rfl)
    | 19 =>
      refine Kr_eq (by rw [x_raise]) ?_
      exact Kr_c rfl (ih _ _ _)
    | 20 =>
      refine Kr_eq (by rw [x_raise]) ?_
      exact Kr_c rfl (ih _ _ _)
    | 21 =>
      refine Kr_eq (by rw [x_raise]) ?_
      exact Kr_ite (Kr_c rfl (ih _ _ _)) (Kr_ite (Kr_ite (Kr_c rfl (ih _ _ _)) (Kr_no _)) (Kr_no _))
    | 22 =>
      refine Kr_eq (by rw [x_raise]) ?_
      exact Kr_c rfl (ih _ _ _)
    | 23 =>
      refine Kr_eq (by rw [x_raise]) ?_
      exact Kr_ob (Kr_c rfl (kr_signOf _ _ _ _)) (fun _ h165 => Kr_ite (Kr_c h165 (ih _ _ _)) (Kr_ite (Kr_c h165 (ih _ _ _)) (Kr_c h165 (ih _ _ _))))
    | 24 =>
      refine Kr_eq (by rw [x_raise]) ?_
      exact Kr_c rfl (ih _ _ _)
    | 25 =>
      refine Kr_eq (by rw [x_raise]) ?_
      exact Kr_ob (Kr_c rfl (kr_wholeOf _ _ _ _)) (fun _ h166 => Kr_so h166)
    | b + 26 =>
      refine Kr_eq (by rw [x_raise]) (Kr_no _)
theorem kr_compareRows__46__43 : ∀ (k b : Nat) (L : Nat → Int32) (σ : MS), Kr dr (x_compareRows__46__43 k b L σ) (kr dr σ) := by
  intro k
  induction k with
  | zero => intro b L σ; exact Kr_no _
  | succ k ih =>
    intro b L σ
    match b with
    | 0 =>
      refine Kr_eq (by rw [x_compareRows__46__43]) ?_
      exact Kr_c rfl (ih _ _ _)
    | 1 =>
      refine Kr_eq (by rw [x_compareRows__46__43]) ?_
      exact Kr_ite (Kr_c rfl (ih _ _ _)) (Kr_ite (Kr_ite (Kr_ite (Kr_c rfl (ih _ _ _)) (Kr_no _)) (Kr_no _)) (Kr_c rfl (ih _ _ _)))
    | 2 =>
      refine Kr_eq (by rw [x_compareRows__46__43]) ?_
      exact Kr_so rfl
    | b + 3 =>
      refine Kr_eq (by rw [x_compareRows__46__43]) (Kr_no _)
theorem kr_divideRows : ∀ (k b : Nat) (L : Nat → Int32) (σ : MS), Kr dr (x_divideRows k b L σ) (kr dr σ) := by
  intro k
  induction k with
  | zero => intro b L σ; exact Kr_no _
  | succ k ih =>
    intro b L σ
    match b with
    | 0 =>
      refine Kr_eq (by rw [x_divideRows]) ?_
      exact Kr_c rfl (ih _ _ _)
    | 1 =>
      refine Kr_eq (by rw [x_divideRows]) ?_
      exact Kr_c rfl (ih _ _ _)
    | 2 =>
      refine Kr_eq (by rw [x_divideRows]) ?_
      exact Kr_c rfl (ih _ _ _)
    | 3 =>
      refine Kr_eq (by rw [x_divideRows]) ?_
      exact Kr_ite (Kr_c rfl (ih _ _ _)) (Kr_ite (Kr_c rfl (ih _ _ _)) (Kr_no _))
    | 4 =>
      refine Kr_eq (by rw [x_divideRows]) ?_
      exact Kr_c rfl (ih _ _ _)
    | 5 =>
      refine Kr_eq (by rw [x_divideRows]) ?_
      exact Kr_c rfl (ih _ _ _)
    | 6 =>
      refine Kr_eq (by rw [x_divideRows]) ?_
      exact Kr_ite (Kr_c rfl (ih _ _ _)) (Kr_ite (Kr_c rfl (ih _ _ _)) (Kr_no _))
    | 7 =>
      refine Kr_eq (by rw [x_divideRows]) ?_
      exact Kr_ite (Kr_c rfl (ih _ _ _)) (Kr_ite (Kr_ite (Kr_c rfl (ih _ _ _)) (Kr_no _)) (Kr_no _))
    | 8 =>
      refine Kr_eq (by rw [x_divideRows]) ?_
      exact Kr_c rfl (ih _ _ _)
    | 9 =>
      refine Kr_eq (by rw [x_divideRows]) ?_
      exact Kr_ite (Kr_c rfl (ih _ _ _)) (Kr_ite (Kr_c rfl (ih _ _ _)) (Kr_no _))
    | 10 =>
      refine Kr_eq (by rw [x_divideRows]) ?_
      exact Kr_c rfl (ih _ _ _)
    | 11 =>
      refine Kr_eq (by rw [x_divideRows]) ?_
      exact Kr_ob (Kr_c rfl (kr_compareRows__46__43 _ _ _ _)) (fun _ h167 => Kr_ite (Kr_c h167 (ih _ _ _)) (Kr_c h167 (ih _ _ _)))
    | 12 =>
      refine Kr_eq (by rw [x_divideRows]) ?_
      exact Kr_ite (Kr_c rfl (ih _ _ _)) (Kr_ite (Kr_ite (Kr_c rfl (ih _ _ _)) (Kr_ite (Kr_c rfl (ih _ _ _)) (Kr_no _))) (Kr_no _))
    | 13 =>
      refine Kr_eq (by rw [x_divideRows]) ?_
      exact Kr_c rfl (ih _ _ _)
    | 14 =>
      refine Kr_eq (by rw [x_divideRows]) ?_
      exact Kr_ite (Kr_c rfl (ih _ _ _)) (Kr_c rfl (ih _ _ _))
    | 15 =>
      refine Kr_eq (by rw [x_divideRows]) ?_
      exact Kr_c rfl (ih _ _ _)
    | 16 =>
      refine Kr_eq (by rw [x_divideRows]) ?_
      exact Kr_ite (Kr_c rfl (ih _ _ _)) (Kr_no _)
    | 17 =>
      refine Kr_eq (by rw [x_divideRows]) ?_
      exact Kr_c rfl (ih _ _ _)
    | 18 =>
      refine Kr_eq (by rw [x_divideRows]) ?_
      exact Kr_ite (Kr_c rfl (ih _ _ _)) (Kr_ite (Kr_ite (Kr_c rfl (ih _ _ _)) (Kr_c rfl (ih _ _ _))) (Kr_no _))
    | 19 =>
      refine Kr_eq (by rw [x_divideRows]) ?_
      exact Kr_ite (Kr_ite (Kr_c rfl (ih _ _ _)) (Kr_no _)) (Kr_no _)
    | 20 =>
      refine Kr_eq (by rw [x_divideRows]) ?_
      exact Kr_c rfl (ih _ _ _)
    | 21 =>
      refine Kr_eq (by rw [x_divideRows]) ?_
      exact Kr_so rfl
    | b + 22 =>
      refine Kr_eq (by rw [x_divideRows]) (Kr_no _)
theorem kr_divide : ∀ (k b : Nat) (L : Nat → Int32) (σ : MS), Kr dr (x_divide k b L σ) (kr dr σ) := by
  intro k
  induction k with
  | zero => intro b L σ; exact Kr_no _
  | succ k ih =>
    intro b L σ
    match b with
    | 0 =>
      refine Kr_eq (by rw [x_divide]) ?_
      exact Kr_ob (Kr_c rfl (kr_signOf _ _ _ _)) (fun _ h168 => Kr_ite (Kr_ob (Kr_c h168 (kr_fail _ _ _ _)) (fun _ h169 => Kr_so h169)) (Kr_c h168 (ih _ _ _)))
    | 1 =>
      refine Kr_eq (by rw [x_divide]) ?_
      exact Kr_ob (Kr_c rfl (kr_loadA _ _ _ _)) (fun _ h170 => Kr_ob (Kr_c h170 (kr_loadB _ _ _ _)) (fun _ h171 => Kr_ob (Kr_c h171 (kr_divideRows _ _ _ _)) (fun _ h172 => Kr_ob (Kr_c h172 (kr_signOf _ _ _ _)) (fun _ h173 => Kr_ite (Kr_c h173 (ih _ _ _)) (Kr_ite (Kr_c h173 (ih _ _ _)) (Kr_c h173 (ih _ _ _)))))))
    | 2 =>
      refine Kr_eq (by rw [x_divide]) ?_
      exact Kr_c rfl (ih _ _ _)
    | 3 =>
      refine Kr_eq (by rw [x_divide]) ?_
      exact Kr_ite (Kr_c rfl (ih _ _ _)) (Kr_ite (Kr_c rfl (ih _ _ _)) (Kr_c rfl (ih _ _ _)))
    | 4 =>
      refine Kr_eq (by rw [x_divide]) ?_
      exact Kr_c rfl (ih _ _ _)
    | 5 =>
      refine Kr_eq (by rw [x_divide]) ?_
      exact Kr_c rfl (ih _ _ _)
    | 6 =>
      refine Kr_eq (by rw [x_divide]) ?_
      exact Kr_c rfl (ih _ _ _)
    | 7 =>
      refine Kr_eq (by rw [x_divide]) ?_
      exact Kr_ite (Kr_c rfl (ih _ _ _)) (Kr_ite (Kr_c rfl (ih _ _ _)) (Kr_ite (Kr_c rfl (ih _ _ _)) (Kr_no _)))
    | 8 =>
      refine Kr_eq (by rw [x_divide]) ?_
      exact Kr_c rfl (ih _ _ _)
    | 9 =>
      refine Kr_eq (by rw [x_divide]) ?_
      exact Kr_ite (Kr_c rfl (ih _ _ _)) (Kr_ite (Kr_c rfl (ih _ _ _)) (Kr_no _))
    | 10 =>
      refine Kr_eq (by rw [x_divide]) ?_
      exact Kr_c rfl (ih _ _ _)
    | 11 =>
      refine Kr_eq (by rw [x_divide]) ?_
      exact Kr_ite (Kr_c rfl (ih _ _ _)) (Kr_ite (Kr_c rfl (ih _ _ _)) (Kr_c rfl (ih _ _ _)))
    | 12 =>
      refine Kr_eq (by rw [x_divide]) ?_
      exact Kr_c rfl (ih _ _ _)
    | 13 =>
      refine Kr_eq (by rw [x_divide]) ?_
      exact Kr_ite (Kr_c rfl (ih _ _ _)) (Kr_no _)
    | 14 =>
      refine Kr_eq (by rw [x_divide]) ?_
      exact Kr_c rfl (ih _ _ _)
    | 15 =>
      refine Kr_eq (by rw [x_divide]) ?_
      exact Kr_ob (Kr_c rfl (kr_wholeOf _ _ _ _)) (fun _ h174 => Kr_so h174)
    | 16 =>
      refine Kr_eq (by rw [x_divide]) ?_
      exact Kr_c rfl (ih _ _ _)
    | 17 =>
      refine Kr_eq (by rw [x_divide]) ?_
      exact Kr_ite (Kr_c rfl (ih _ _ _)) (Kr_c rfl (ih _ _ _))
    | 18 =>
      refine Kr_eq (by rw [x_divide]) ?_
      exact Kr_c rfl (ih _ _ _)
    | 19 =>
      refine Kr_eq (by rw [x_divide]) ?_
      exact Kr_c rfl (ih _ _ _)
    | 20 =>
      refine Kr_eq (by rw [x_divide]) ?_
      exact Kr_ite (Kr_c rfl (ih _ _ _)) (Kr_ite (Kr_ite (Kr_c rfl (ih _ _ _)) (Kr_no _)) (Kr_no _))
    | 21 =>
      refine Kr_eq (by rw [x_divide]) ?_
      exact Kr_c rfl (ih _ _ _)
    | 22 =>
      refine Kr_eq (by rw [x_divide]) ?_
      exact Kr_ite (Kr_c rfl (ih _ _ _)) (Kr_ite (Kr_c rfl (ih _ _ _)) (Kr_no _))
    | 23 =>
      refine Kr_eq (by rw [x_divide]) ?_
      exact Kr_c rfl (ih _ _ _)
    | 24 =>
      refine Kr_eq (by rw [x_divide]) ?_
      exact Kr_ob (Kr_c rfl (kr_signOf _ _ _ _)) (fun _ h175 => Kr_ob (Kr_c h175 (kr_signOf _ _ _ _)) (fun _ h176 => Kr_ob (Kr_c h176 (kr_wholeOf _ _ _ _)) (fun _ h177 => Kr_so h177)))
    | b + 25 =>
      refine Kr_eq (by rw [x_divide]) (Kr_no _)
theorem kr_isIn : ∀ (k b : Nat) (L : Nat → Int32) (σ : MS), Kr dr (x_isIn k b L σ) (kr dr σ) := by
  intro k
  induction k with
  | zero => intro b L σ; exact Kr_no _
  | succ k ih =>
    intro b L σ
    match b with
    | 0 =>
      refine Kr_eq (by rw [x_isIn]) ?_
      exact Kr_ob (Kr_c rfl (kr_kind _ _ _ _)) (fun _ h178 => Kr_ite (Kr_ite (Kr_c h178 (ih _ _ _)) (Kr_ob (Kr_c h178 (kr_has _ _ _ _)) (fun _ h179 => Kr_ite (Kr_c h179 (ih _ _ _)) (Kr_c h179 (ih _ _ _))))) (Kr_c h178 (ih _ _ _)))
    | 1 =>
      refine Kr_eq (by rw [x_isIn]) ?_
      exact Kr_c rfl (ih _ _ _)
    | 2 =>
      refine Kr_eq (by rw [x_isIn]) ?_
      exact Kr_ob (Kr_c rfl (kr_truth _ _ _ _)) (fun _ h180 => Kr_so h180)
    | 3 =>
      refine Kr_eq (by rw [x_isIn]) ?_
      exact Kr_ite (Kr_c rfl (ih _ _ _)) (Kr_c rfl (ih _ _ _))
    | 4 =>
      refine Kr_eq (by rw [x_isIn]) ?_
      exact Kr_ite (Kr_ite (Kr_c rfl (ih _ _ _)) (Kr_ite (Kr_c rfl (ih _ _ _)) (Kr_ite (Kr_ite (Kr_ob (Kr_c rfl (kr_compare _ _ _ _)) (fun _ h181 => Kr_ite (Kr_c h181 (ih _ _ _)) (Kr_c h181 (ih _ _ _)))) (Kr_no _)) (Kr_c rfl (ih _ _ _))))) (Kr_no _)
    | 5 =>
      refine Kr_eq (by rw [x_isIn]) ?_
      exact Kr_c rfl (ih _ _ _)
    | 6 =>
      refine Kr_eq (by rw [x_isIn]) ?_
      exact Kr_c rfl (ih _ _ _)
    | 7 =>
      refine Kr_eq (by rw [x_isIn]) ?_
      exact Kr_c rfl (ih _ _ _)
    | 8 =>
      refine Kr_eq (by rw [x_isIn]) ?_
      exact Kr_ob (Kr_c rfl (kr_truth _ _ _ _)) (fun _ h182 => Kr_so h182)
    | 9 =>
      refine Kr_eq (by rw [x_isIn]) ?_
      exact Kr_ite (Kr_ob (Kr_c rfl (kr_kind _ _ _ _)) (fun _ h183 => Kr_ite (Kr_c h183 (ih _ _ _)) (Kr_c h183 (ih _ _ _)))) (Kr_c rfl (ih _ _ _))
    | 10 =>
      refine Kr_eq (by rw [x_isIn]) ?_
      exact Kr_ob (Kr_c rfl (kr_wrongKind _ _ _ _)) (fun _ h184 => Kr_so h184)
    | 11 =>
      refine Kr_eq (by rw [x_isIn]) ?_
      exact Kr_c rfl (ih _ _ _)
    | 12 =>
      refine Kr_eq (by rw [x_isIn]) ?_
      exact Kr_ite (Kr_ite (Kr_ite (Kr_c rfl (ih _ _ _)) (Kr_ite (Kr_c rfl (ih _ _ _)) (Kr_c rfl (ih _ _ _)))) (Kr_no _)) (Kr_no _)
    | 13 =>
      refine Kr_eq (by rw [x_isIn]) ?_
      exact Kr_ite (Kr_ite (Kr_c rfl (ih _ _ _)) (Kr_ite (Kr_c rfl (ih _ _ _)) (Kr_ite (Kr_ite (Kr_ite (Kr_c rfl (ih _ _ _)) (Kr_c rfl (ih _ _ _))) (Kr_no _)) (Kr_no _)))) (Kr_no _)
    | 14 =>
      refine Kr_eq (by rw [x_isIn]) ?_
      exact Kr_c rfl (ih _ _ _)
    | 15 =>
      refine Kr_eq (by rw [x_isIn]) ?_
      exact Kr_c rfl (ih _ _ _)
    | 16 =>
      refine Kr_eq (by rw [x_isIn]) ?_
      exact Kr_c rfl (ih _ _ _)
    | 17 =>
      refine Kr_eq (by rw [x_isIn]) ?_
      exact Kr_ob (Kr_c rfl (kr_truth _ _ _ _)) (fun _ h185 => Kr_so h185)
    | b + 18 =>
      refine Kr_eq (by rw [x_isIn]) (Kr_no _)
theorem kr_isSubset : ∀ (k b : Nat) (L : Nat → Int32) (σ : MS), Kr dr (x_isSubset k b L σ) (kr dr σ) := by
  intro k
  induction k with
  | zero => intro b L σ; exact Kr_no _
  | succ k ih =>
    intro b L σ
    match b with
    | 0 =>
      refine Kr_eq (by rw [x_isSubset]) ?_
      exact Kr_c rfl (ih _ _ _)
    | 1 =>
      refine Kr_eq (by rw [x_isSubset]) ?_
      exact Kr_ite (Kr_ite (Kr_c rfl (ih _ _ _)) (Kr_ite (Kr_c rfl (ih _ _ _)) (Kr_ite (Kr_ob (Kr_c rfl (kr_has _ _ _ _)) (fun _ h186 => Kr_c h186 (ih _ _ _))) (Kr_no _)))) (Kr_no _)
    | 2 =>
      refine Kr_eq (by rw [x_isSubset]) ?_
      exact Kr_ite (Kr_so rfl) (Kr_no _)
    | b + 3 =>
      refine Kr_eq (by rw [x_isSubset]) (Kr_no _)
theorem kr_operate : ∀ (k b : Nat) (L : Nat → Int32) (σ : MS), Kr dr (x_operate k b L σ) (kr dr σ) := by
  intro k
  induction k with
  | zero => intro b L σ; exact Kr_no _
  | succ k ih =>
    intro b L σ
    match b with
    | 0 =>
      refine Kr_eq (by rw [x_operate]) ?_
      exact Kr_ob (Kr_c rfl (kr_kind _ _ _ _)) (fun _ h187 => Kr_ob (Kr_c h187 (kr_kind _ _ _ _)) (fun _ h188 => Kr_ite (Kr_ite (Kr_c h188 (ih _ _ _)) (Kr_c h188 (ih _ _ _))) (Kr_c h188 (ih _ _ _))))
    | 1 =>
      refine Kr_eq (by rw [x_operate]) ?_
      exact Kr_c rfl (ih _ _ _)
    | 2 =>
      refine Kr_eq (by rw [x_operate]) ?_
      exact Kr_ite (Kr_c rfl (ih _ _ _)) (Kr_ite (Kr_c rfl (ih _ _ _)) (Kr_ite (Kr_c rfl (ih _ _ _)) (Kr_ite (Kr_c rfl (ih _ _ _)) (Kr_ite (Kr_c rfl (ih _ _ _)) (Kr_ite (Kr_c rfl (ih _ _ _)) (Kr_ite (Kr_c rfl (ih _ _ _)) (Kr_ite (Kr_c rfl (ih _ _ _)) (Kr_ite (Kr_c rfl (ih _ _ _)) (Kr_ite (Kr_c rfl (ih _ _ _)) (Kr_ite (Kr_c rfl (ih _ _ _)) (Kr_c rfl (ih _ _ _))))))))))))
    | 3 =>
      refine Kr_eq (by rw [x_operate]) ?_
      exact Kr_ob (Kr_c rfl (kr_plus _ _ _ _)) (fun _ h189 => Kr_so h189)
    | 4 =>
      refine Kr_eq (by rw [x_operate]) ?_
      exact Kr_ite (Kr_c rfl (ih _ _ _)) (Kr_ob (Kr_c rfl (kr_add _ _ _ _)) (fun _ h190 => Kr_so h190))
    | 5 =>
      refine Kr_eq (by rw [x_operate]) ?_
      exact Kr_ite (Kr_ite (Kr_ob (Kr_c rfl (kr_sift _ _ _ _)) (fun _ h191 => Kr_c h191 (ih _ _ _))) (Kr_c rfl (ih _ _ _))) (Kr_c rfl (ih _ _ _))
    | 6 =>
      refine Kr_eq (by rw [x_operate]) ?_
      exact Kr_ob (Kr_c rfl (kr_wrongKind _ _ _ _)) (fun _ h192 => Kr_c h192 (ih _ _ _))
    | 7 =>
      refine Kr_eq (by rw [x_operate]) ?_
      exact Kr_so rfl
    | 8 =>
      refine Kr_eq (by rw [x_operate]) ?_
      exact Kr_ite (Kr_c rfl (ih _ _ _)) (Kr_ob (Kr_c rfl (kr_multiply _ _ _ _ _)) (fun _ h193 => Kr_so h193))
    | 9 =>
      refine Kr_eq (by rw [x_operate]) ?_
      exact Kr_ite (Kr_ite (Kr_ob (Kr_c rfl (kr_sift _ _ _ _)) (fun _ h194 => Kr_so h194)) (Kr_c rfl (ih _ _ _))) (Kr_c rfl (ih _ _ _))
    | 10 =>
      refine Kr_eq (by rw [x_operate]) ?_
      exact Kr_ite (Kr_c rfl (ih _ _ _)) (Kr_ite (Kr_c rfl (ih _ _ _)) (Kr_c rfl (ih _ _ _)))
    | 11 =>
      refine Kr_eq (by rw [x_operate]) ?_
      exact Kr_ite (Kr_ob (Kr_c rfl (kr_repeat _ _ _ _)) (fun _ h195 => Kr_c h195 (ih _ _ _))) (Kr_c rfl (ih _ _ _))
    | 12 =>
      refine Kr_eq (by rw [x_operate]) ?_
      exact Kr_ob (Kr_c rfl (kr_wrongKind _ _ _ _)) (fun _ h196 => Kr_c h196 (ih _ _ _))
    | 13 =>
      refine Kr_eq (by rw [x_operate]) ?_
      exact Kr_so rfl
    | 14 =>
      refine Kr_eq (by rw [x_operate]) ?_
      exact Kr_ite (Kr_c rfl (ih _ _ _)) (Kr_ob (Kr_c rfl (kr_raise _ _ _ _)) (fun _ h197 => Kr_c h197 (ih _ _ _)))
    | 15 =>
      refine Kr_eq (by rw [x_operate]) ?_
      exact Kr_ob (Kr_c rfl (kr_wrongKind _ _ _ _)) (fun _ h198 => Kr_c h198 (ih _ _ _))
    | 16 =>
      refine Kr_eq (by rw [x_operate]) ?_
      exact Kr_so rfl
    | 17 =>
      refine Kr_eq (by rw [x_operate]) ?_
      exact Kr_ob (Kr_c rfl (kr_compare _ _ _ _)) (fun _ h199 => Kr_ite (Kr_c h199 (ih _ _ _)) (Kr_c h199 (ih _ _ _)))
    | 18 =>
      refine Kr_eq (by rw [x_operate]) ?_
      exact Kr_c rfl (ih _ _ _)
    | 19 =>
      refine Kr_eq (by rw [x_operate]) ?_
      exact Kr_ob (Kr_c rfl (kr_truth _ _ _ _)) (fun _ h200 => Kr_so h200)
    | 20 =>
      refine Kr_eq (by rw [x_operate]) ?_
      exact Kr_ob (Kr_c rfl (kr_compare _ _ _ _)) (fun _ h201 => Kr_ite (Kr_c h201 (ih _ _ _)) (Kr_c h201 (ih _ _ _)))
    | 21 =>
      refine Kr_eq (by rw [x_operate]) ?_
      exact Kr_c rfl (ih _ _ _)
    | 22 =>
      refine Kr_eq (by rw [x_operate]) ?_
      exact Kr_ob (Kr_c rfl (kr_truth _ _ _ _)) (fun _ h202 => Kr_so h202)
    | 23 =>
      refine Kr_eq (by rw [x_operate]) ?_
      exact Kr_ite (Kr_c rfl (ih _ _ _)) (Kr_ob (Kr_c rfl (kr_divide _ _ _ _)) (fun _ h203 => Kr_c h203 (ih _ _ _)))
    | 24 =>
      refine Kr_eq (by rw [x_operate]) ?_
      exact Kr_ob (Kr_c rfl (kr_wrongKind _ _ _ _)) (fun _ h204 => Kr_c h204 (ih _ _ _))
    | 25 =>
      refine Kr_eq (by rw [x_operate]) ?_
      exact Kr_so rfl
    | 26 =>
      refine Kr_eq (by rw [x_operate]) ?_
      exact Kr_ite (Kr_c rfl (ih _ _ _)) (Kr_ob (Kr_c rfl (kr_divide _ _ _ _)) (fun _ h205 => Kr_c h205 (ih _ _ _)))
    | 27 =>
      refine Kr_eq (by rw [x_operate]) ?_
      exact Kr_ob (Kr_c rfl (kr_wrongKind _ _ _ _)) (fun _ h206 => Kr_c h206 (ih _ _ _))
    | 28 =>
      refine Kr_eq (by rw [x_operate]) ?_
      exact Kr_so rfl
    | 29 =>
      refine Kr_eq (by rw [x_operate]) ?_
      exact Kr_ob (Kr_c rfl (kr_isIn _ _ _ _)) (fun _ h207 => Kr_so h207)
    | 30 =>
      refine Kr_eq (by rw [x_operate]) ?_
      exact Kr_ob (Kr_c rfl (kr_isIn _ _ _ _)) (fun _ h208 => Kr_ite (Kr_c h208 (ih _ _ _)) (Kr_c h208 (ih _ _ _)))
    | 31 =>
      refine Kr_eq (by rw [x_operate]) ?_
      exact Kr_c rfl (ih _ _ _)
    | 32 =>
      refine Kr_eq (by rw [x_operate]) ?_
      exact Kr_ob (Kr_c rfl (kr_truth _ _ _ _)) (fun _ h209 => Kr_so h209)
    | 33 =>
      refine Kr_eq (by rw [x_operate]) ?_
      exact Kr_ite (Kr_ite (Kr_ob (Kr_c rfl (kr_isSubset _ _ _ _)) (fun _ h210 => Kr_ob (Kr_c h210 (kr_truth _ _ _ _)) (fun _ h211 => Kr_c h211 (ih _ _ _)))) (Kr_c rfl (ih _ _ _))) (Kr_c rfl (ih _ _ _))
    | 34 =>
      refine Kr_eq (by rw [x_operate]) ?_
      exact Kr_ob (Kr_c rfl (kr_wrongKind _ _ _ _)) (fun _ h212 => Kr_c h212 (ih _ _ _))
    | 35 =>
      refine Kr_eq (by rw [x_operate]) ?_
      exact Kr_so rfl
    | 36 =>
      refine Kr_eq (by rw [x_operate]) ?_
      exact Kr_ite (Kr_ite (Kr_ite (Kr_c rfl (ih _ _ _)) (Kr_c rfl (ih _ _ _))) (Kr_c rfl (ih _ _ _))) (Kr_c rfl (ih _ _ _))
    | 37 =>
      refine Kr_eq (by rw [x_operate]) ?_
      exact Kr_ob (Kr_c rfl (kr_wrongKind _ _ _ _)) (fun _ h213 => Kr_so h213)
    | 38 =>
      refine Kr_eq (by rw [x_operate]) ?_
      exact Kr_ob (Kr_c rfl (kr_compare _ _ _ _)) (fun _ h214 => Kr_ite (Kr_ite (Kr_c h214 (ih _ _ _)) (Kr_c h214 (ih _ _ _))) (Kr_c h214 (ih _ _ _)))
    | 39 =>
      refine Kr_eq (by rw [x_operate]) ?_
      exact Kr_c rfl (ih _ _ _)
    | 40 =>
      refine Kr_eq (by rw [x_operate]) ?_
      exact Kr_ite (Kr_ite (Kr_c rfl (ih _ _ _)) (Kr_c rfl (ih _ _ _))) (Kr_c rfl (ih _ _ _))
    | 41 =>
      refine Kr_eq (by rw [x_operate]) ?_
      exact Kr_c rfl (ih _ _ _)
    | 42 =>
      refine Kr_eq (by rw [x_operate]) ?_
      exact Kr_ite (Kr_ite (Kr_c rfl (ih _ _ _)) (Kr_c rfl (ih _ _ _))) (Kr_c rfl (ih _ _ _))
    | 43 =>
      refine Kr_eq (by rw [x_operate]) ?_
      exact Kr_c rfl (ih _ _ _)
    | 44 =>
      refine Kr_eq (by rw [x_operate]) ?_
      exact Kr_ite (Kr_c rfl (ih _ _ _)) (Kr_c rfl (ih _ _ _))
    | 45 =>
      refine Kr_eq (by rw [x_operate]) ?_
      exact Kr_c rfl (ih _ _ _)
    | 46 =>
      refine Kr_eq (by rw [x_operate]) ?_
      exact Kr_ob (Kr_c rfl (kr_truth _ _ _ _)) (fun _ h215 => Kr_so h215)
    | b + 47 =>
      refine Kr_eq (by rw [x_operate]) (Kr_no _)
theorem kr_isRow : ∀ (k b : Nat) (L : Nat → Int32) (σ : MS), Kr dr (x_isRow k b L σ) (kr dr σ) := by
  intro k
  induction k with
  | zero => intro b L σ; exact Kr_no _
  | succ k ih =>
    intro b L σ
    match b with
    | 0 =>
      refine Kr_eq (by rw [x_isRow]) ?_
      exact Kr_ob (Kr_c rfl (kr_kind _ _ _ _)) (fun _ h216 => Kr_ite (Kr_c h216 (ih _ _ _)) (Kr_c h216 (ih _ _ _)))
    | 1 =>
      refine Kr_eq (by rw [x_isRow]) ?_
      exact Kr_c rfl (ih _ _ _)
    | 2 =>
      refine Kr_eq (by rw [x_isRow]) ?_
      exact Kr_ite (Kr_so rfl) (Kr_no _)
    | b + 3 =>
      refine Kr_eq (by rw [x_isRow]) (Kr_no _)
theorem kr_other : ∀ (k b : Nat) (L : Nat → Int32) (σ : MS), Kr dr (x_other k b L σ) (kr dr σ) := by
  intro k
  induction k with
  | zero => intro b L σ; exact Kr_no _
  | succ k ih =>
    intro b L σ
    match b with
    | 0 =>
      refine Kr_eq (by rw [x_other]) ?_
      exact Kr_ob (Kr_c rfl (kr_loadA _ _ _ _)) (fun _ h217 => Kr_c h217 (ih _ _ _))
    | 1 =>
      refine Kr_eq (by rw [x_other]) ?_
      exact Kr_c rfl (ih _ _ _)
    | 2 =>
      refine Kr_eq (by rw [x_other]) ?_
      exact Kr_ite (Kr_c rfl (ih _ _ _)) (Kr_ite (Kr_ite (Kr_c rfl (ih _ _ _)) (Kr_no _)) (Kr_no _))
    | 3 =>
      refine Kr_eq (by rw [x_other]) ?_
      exact Kr_c rfl (ih _ _ _)
    | 4 =>
      refine Kr_eq (by rw [x_other]) ?_
      exact Kr_ob (Kr_c rfl (kr_signOf _ _ _ _)) (fun _ h218 => Kr_ob (Kr_c h218 (kr_wholeOf _ _ _ _)) (fun _ h219 => Kr_so h219))
    | b + 5 =>
      refine Kr_eq (by rw [x_other]) (Kr_no _)
theorem kr_negative : ∀ (k b : Nat) (L : Nat → Int32) (σ : MS), Kr dr (x_negative k b L σ) (kr dr σ) := by
  intro k
  induction k with
  | zero => intro b L σ; exact Kr_no _
  | succ k ih =>
    intro b L σ
    match b with
    | 0 =>
      refine Kr_eq (by rw [x_negative]) ?_
      exact Kr_ob (Kr_c rfl (kr_kind _ _ _ _)) (fun _ h220 => Kr_ite (Kr_c h220 (ih _ _ _)) (Kr_ob (Kr_c h220 (kr_wrongKind _ _ _ _)) (fun _ h221 => Kr_c h221 (ih _ _ _))))
    | 1 =>
      refine Kr_eq (by rw [x_negative]) ?_
      exact Kr_ob (Kr_c rfl (kr_other _ _ _ _)) (fun _ h222 => Kr_c h222 (ih _ _ _))
    | 2 =>
      refine Kr_eq (by rw [x_negative]) ?_
      exact Kr_so rfl
    | b + 3 =>
      refine Kr_eq (by rw [x_negative]) (Kr_no _)
theorem kr_many : ∀ (k b : Nat) (L : Nat → Int32) (σ : MS), Kr dr (x_many k b L σ) (kr dr σ) := by
  intro k
  induction k with
  | zero => intro b L σ; exact Kr_no _
  | succ k ih =>
    intro b L σ
    match b with
    | 0 =>
      refine Kr_eq (by rw [x_many]) ?_
      exact Kr_ob (Kr_c rfl (kr_kind _ _ _ _)) (fun _ h223 => Kr_ite (Kr_c h223 (ih _ _ _)) (Kr_ob (Kr_c h223 (kr_fail _ _ _ _)) (fun _ h224 => Kr_so h224)))
    | 1 =>
      refine Kr_eq (by rw [x_many]) ?_
      exact Kr_ite (Kr_ob (Kr_c rfl (kr_small _ _ _ _)) (fun _ h225 => Kr_so h225)) (Kr_no _)
    | b + 2 =>
      refine Kr_eq (by rw [x_many]) (Kr_no _)
theorem kr_turned : ∀ (k b : Nat) (L : Nat → Int32) (σ : MS), Kr dr (x_turned k b L σ) (kr dr σ) := by
  intro k
  induction k with
  | zero => intro b L σ; exact Kr_no _
  | succ k ih =>
    intro b L σ
    match b with
    | 0 =>
      refine Kr_eq (by rw [x_turned]) ?_
      exact Kr_ite (Kr_c rfl (ih _ _ _)) (Kr_ite (Kr_c rfl (ih _ _ _)) (Kr_ob (Kr_c rfl (kr_fail _ _ _ _)) (fun _ h226 => Kr_c h226 (ih _ _ _))))
    | 1 =>
      refine Kr_eq (by rw [x_turned]) ?_
      exact Kr_ite (Kr_c rfl (ih _ _ _)) (Kr_c rfl (ih _ _ _))
    | 2 =>
      refine Kr_eq (by rw [x_turned]) ?_
      exact Kr_c rfl (ih _ _ _)
    | 3 =>
      refine Kr_eq (by rw [x_turned]) ?_
      exact Kr_ob (Kr_c rfl (kr_truth _ _ _ _)) (fun _ h227 => Kr_so h227)
    | b + 4 =>
      refine Kr_eq (by rw [x_turned]) (Kr_no _)
theorem kr_reduce : ∀ (k b : Nat) (L : Nat → Int32) (σ : MS), Kr dr (x_reduce k b L σ) (kr dr σ) := by
  intro k
  induction k with
  | zero => intro b L σ; exact Kr_no _
  | succ k ih =>
    intro b L σ
    match b with
    | 0 =>
      refine Kr_eq (by rw [x_reduce]) ?_
      exact Kr_ob (Kr_c rfl (kr_kind _ _ _ _)) (fun _ h228 => Kr_ite (Kr_c h228 (ih _ _ _)) (Kr_ite (Kr_c h228 (ih _ _ _)) (Kr_ob (Kr_c h228 (kr_wrongKind _ _ _ _)) (fun _ h229 => Kr_so h229))))
    | 1 =>
      refine Kr_eq (by rw [x_reduce]) ?_
      exact Kr_ite (Kr_ite (Kr_so rfl) (Kr_c rfl (ih _ _ _))) (Kr_no _)
    | 2 =>
      refine Kr_eq (by rw [x_reduce]) ?_
      exact Kr_ob (Kr_c rfl (kr_push _ _ _ _)) (fun _ h230 => Kr_ite (Kr_ob (Kr_c h230 (kr_push _ _ _ _)) (fun _ h231 => Kr_c h231 (ih _ _ _))) (Kr_no _))
    | 3 =>
      refine Kr_eq (by rw [x_reduce]) ?_
      exact Kr_ite (Kr_c rfl (ih _ _ _)) (Kr_ite (Kr_ob (Kr_c rfl (kr_sweep _ _ _ _)) (fun _ h232 => Kr_ite (Kr_ite (Kr_ite (Kr_ite (Kr_c h232 (ih _ _ _)) (Kr_ite (Kr_c h232 (ih _ _ _)) (Kr_c h232 (ih _ _ _)))) (Kr_no _)) (Kr_no _)) (Kr_no _))) (Kr_c rfl (ih _ _ _)))
    | 4 =>
      refine Kr_eq (by rw [x_reduce]) ?_
      exact Kr_ob (Kr_c rfl (kr_operate _ _ _ _)) (fun _ h233 => Kr_ob (Kr_c h233 (kr_answer _ _ _ _)) (fun _ h234 => Kr_c h234 (ih _ _ _)))
    | 5 =>
      refine Kr_eq (by rw [x_reduce]) ?_
      exact Kr_ob (Kr_c rfl (kr_operate _ _ _ _)) (fun _ h235 => Kr_ite (Kr_c h235 (ih _ _ _)) (Kr_c h235 (ih _ _ _)))
    | 6 =>
      refine Kr_eq (by rw [x_reduce]) ?_
      exact Kr_c rfl (ih _ _ _)
    | 7 =>
      refine Kr_eq (by rw [x_reduce]) ?_
      exact Kr_ite (Kr_ite (Kr_c rfl (ih _ _ _)) (Kr_ite (Kr_c rfl (ih _ _ _)) (Kr_c rfl (ih _ _ _)))) (Kr_c rfl (ih _ _ _))
    | 8 =>
      refine Kr_eq (by rw [x_reduce]) ?_
      exact Kr_ob (Kr_c rfl (kr_operate _ _ _ _)) (fun _ h236 => Kr_ite (Kr_c h236 (ih _ _ _)) (Kr_c h236 (ih _ _ _)))
    | 9 =>
      refine Kr_eq (by rw [x_reduce]) ?_
      exact Kr_c rfl (ih _ _ _)
    | 10 =>
      refine Kr_eq (by rw [x_reduce]) ?_
      exact Kr_c rfl (ih _ _ _)
    | 11 =>
      refine Kr_eq (by rw [x_reduce]) ?_
      exact Kr_c rfl (ih _ _ _)
    | 12 =>
      refine Kr_eq (by rw [x_reduce]) ?_
      exact Kr_ite (Kr_c rfl (ih _ _ _)) (Kr_no _)
    | 13 =>
      refine Kr_eq (by rw [x_reduce]) ?_
      exact Kr_c rfl (ih _ _ _)
    | 14 =>
      refine Kr_eq (by rw [x_reduce]) ?_
      exact Kr_c rfl (ih _ _ _)
    | 15 =>
      refine Kr_eq (by rw [x_reduce]) ?_
      exact Kr_ite (Kr_ite (Kr_c rfl (ih _ _ _)) (Kr_no _)) (Kr_c rfl (ih _ _ _))
    | 16 =>
      refine Kr_eq (by rw [x_reduce]) ?_
      exact Kr_c rfl (ih _ _ _)
    | 17 =>
      refine Kr_eq (by rw [x_reduce]) ?_
      exact Kr_so rfl
    | b + 18 =>
      refine Kr_eq (by rw [x_reduce]) (Kr_no _)
theorem kr_side : ∀ (k b : Nat) (L : Nat → Int32) (σ : MS), Kr dr (x_side k b L σ) (kr dr σ) := by
  intro k
  induction k with
  | zero => intro b L σ; exact Kr_no _
  | succ k ih =>
    intro b L σ
    match b with
    | 0 =>
      refine Kr_eq (by rw [x_side]) ?_
      exact Kr_ob (Kr_c rfl (kr_isMap _ _ _ _)) (fun _ h237 => Kr_ite (Kr_ob (Kr_c h237 (kr_wrongKind _ _ _ _)) (fun _ h238 => Kr_so h238)) (Kr_c h237 (ih _ _ _)))
    | 1 =>
      refine Kr_eq (by rw [x_side]) ?_
      exact Kr_c rfl (ih _ _ _)
    | 2 =>
      refine Kr_eq (by rw [x_side]) ?_
      exact Kr_ite (Kr_ite (Kr_c rfl (ih _ _ _)) (Kr_ite (Kr_ite (Kr_ob (Kr_c rfl (kr_push _ _ _ _)) (fun _ h239 => Kr_c h239 (ih _ _ _))) (Kr_no _)) (Kr_no _))) (Kr_no _)
    | 3 =>
      refine Kr_eq (by rw [x_side]) ?_
      exact Kr_c rfl (ih _ _ _)
    | 4 =>
      refine Kr_eq (by rw [x_side]) ?_
      exact Kr_ite (Kr_c rfl (ih _ _ _)) (Kr_ite (Kr_ite (Kr_ite (Kr_c rfl (ih _ _ _)) (Kr_c rfl (ih _ _ _))) (Kr_no _)) (Kr_c rfl (ih _ _ _)))
    | 5 =>
      refine Kr_eq (by rw [x_side]) ?_
      exact Kr_c rfl (ih _ _ _)
    | 6 =>
      refine Kr_eq (by rw [x_side]) ?_
      exact Kr_c rfl (ih _ _ _)
    | 7 =>
      refine Kr_eq (by rw [x_side]) ?_
      exact Kr_c rfl (ih _ _ _)
    | 8 =>
      refine Kr_eq (by rw [x_side]) ?_
      exact Kr_ite (Kr_c rfl (ih _ _ _)) (Kr_c rfl (ih _ _ _))
    | 9 =>
      refine Kr_eq (by rw [x_side]) ?_
      exact Kr_ob (Kr_c rfl (kr_fail _ _ _ _)) (fun _ h240 => Kr_so h240)
    | 10 =>
      refine Kr_eq (by rw [x_side]) ?_
      exact Kr_ob (Kr_c rfl (kr_setOf _ _ _ _)) (fun _ h241 => Kr_so h241)
    | b + 11 =>
      refine Kr_eq (by rw [x_side]) (Kr_no _)
theorem kr_powerSet : ∀ (k b : Nat) (L : Nat → Int32) (σ : MS), Kr dr (x_powerSet k b L σ) (kr dr σ) := by
  intro k
  induction k with
  | zero => intro b L σ; exact Kr_no _
  | succ k ih =>
    intro b L σ
    match b with
    | 0 =>
      refine Kr_eq (by rw [x_powerSet]) ?_
      exact Kr_ob (Kr_c rfl (kr_kind _ _ _ _)) (fun _ h242 => Kr_ite (Kr_c h242 (ih _ _ _)) (Kr_ob (Kr_c h242 (kr_wrongKind _ _ _ _)) (fun _ h243 => Kr_so h243)))
    | 1 =>
      refine Kr_eq (by rw [x_powerSet]) ?_
      exact Kr_ite (Kr_ite (Kr_c rfl (ih _ _ _)) (Kr_ob (Kr_c rfl (kr_fail _ _ _ _)) (fun _ h244 => Kr_so h244))) (Kr_no _)
    | 2 =>
      refine Kr_eq (by rw [x_powerSet]) ?_
      exact Kr_c rfl (ih _ _ _)
    | 3 =>
      refine Kr_eq (by rw [x_powerSet]) ?_
      exact Kr_ite (Kr_c rfl (ih _ _ _)) (Kr_ite (Kr_c rfl (ih _ _ _)) (Kr_c rfl (ih _ _ _)))
    | 4 =>
      refine Kr_eq (by rw [x_powerSet]) ?_
      exact Kr_ite (Kr_c rfl (ih _ _ _)) (Kr_ite (Kr_ite (Kr_ob (Kr_c rfl (kr_push _ _ _ _)) (fun _ h245 => Kr_c h245 (ih _ _ _))) (Kr_no _)) (Kr_c rfl (ih _ _ _)))
    | 5 =>
      refine Kr_eq (by rw [x_powerSet]) ?_
      exact Kr_c rfl (ih _ _ _)
    | 6 =>
      refine Kr_eq (by rw [x_powerSet]) ?_
      exact Kr_ob (Kr_c rfl (kr_setOf _ _ _ _)) (fun _ h246 => Kr_ob (Kr_c h246 (kr_push _ _ _ _)) (fun _ h247 => Kr_c h247 (ih _ _ _)))
    | 7 =>
      refine Kr_eq (by rw [x_powerSet]) ?_
      exact Kr_ite (Kr_ob (Kr_c rfl (kr_setOf _ _ _ _)) (fun _ h248 => Kr_c h248 (ih _ _ _))) (Kr_c rfl (ih _ _ _))
    | 8 =>
      refine Kr_eq (by rw [x_powerSet]) ?_
      exact Kr_c rfl (ih _ _ _)
    | 9 =>
      refine Kr_eq (by rw [x_powerSet]) ?_
      exact Kr_so rfl
    | b + 10 =>
      refine Kr_eq (by rw [x_powerSet]) (Kr_no _)
theorem kr_put : ∀ (k b : Nat) (L : Nat → Int32) (σ : MS), Kr dr (x_put k b L σ) (kr dr σ) := by
  intro k
  induction k with
  | zero => intro b L σ; exact Kr_no _
  | succ k ih =>
    intro b L σ
    match b with
    | 0 =>
      refine Kr_eq (by rw [x_put]) ?_
      exact Kr_ite (Kr_c rfl (ih _ _ _)) (Kr_no _)
    | 1 =>
      refine Kr_eq (by rw [x_put]) ?_
      exact Kr_so rfl
    | b + 2 =>
      refine Kr_eq (by rw [x_put]) (Kr_no _)
theorem kr_putWord : ∀ (k b : Nat) (L : Nat → Int32) (σ : MS), Kr dr (x_putWord k b L σ) (kr dr σ) := by
  intro k
  induction k with
  | zero => intro b L σ; exact Kr_no _
  | succ k ih =>
    intro b L σ
    match b with
    | 0 =>
      refine Kr_eq (by rw [x_putWord]) ?_
      exact Kr_c rfl (ih _ _ _)
    | 1 =>
      refine Kr_eq (by rw [x_putWord]) ?_
      exact Kr_ite (Kr_c rfl (ih _ _ _)) (Kr_ite (Kr_ite (Kr_c rfl (ih _ _ _)) (Kr_c rfl (ih _ _ _))) (Kr_no _))
    | 2 =>
      refine Kr_eq (by rw [x_putWord]) ?_
      exact Kr_c rfl (ih _ _ _)
    | 3 =>
      refine Kr_eq (by rw [x_putWord]) ?_
      exact Kr_c rfl (ih _ _ _)
    | 4 =>
      refine Kr_eq (by rw [x_putWord]) ?_
      exact Kr_ite (Kr_ite (Kr_c rfl (ih _ _ _)) (Kr_ite (Kr_ob (Kr_c rfl (kr_put _ _ _ _)) (fun _ h249 => Kr_c h249 (ih _ _ _))) (Kr_no _))) (Kr_no _)
    | 5 =>
      refine Kr_eq (by rw [x_putWord]) ?_
      exact Kr_so rfl
    | b + 6 =>
      refine Kr_eq (by rw [x_putWord]) (Kr_no _)
theorem kr_stringOf__48 : ∀ (k b : Nat) (L : Nat → Int32) (σ : MS), Kr dr (x_stringOf__48 k b L σ) (kr dr σ) := by
  intro k
  induction k with
  | zero => intro b L σ; exact Kr_no _
  | succ k ih =>
    intro b L σ
    match b with
    | 0 =>
      refine Kr_eq (by rw [x_stringOf__48]) ?_
      exact Kr_ite (Kr_no _) (Kr_ite (Kr_c rfl (ih _ _ _)) (Kr_ob (Kr_c rfl (kr_fail _ _ _ _)) (fun _ h250 => Kr_so h250)))
    | 1 =>
      refine Kr_eq (by rw [x_stringOf__48]) ?_
      exact Kr_ob (Kr_c rfl (kr_make _ _ _ _)) (fun _ h251 => Kr_c h251 (ih _ _ _))
    | 2 =>
      refine Kr_eq (by rw [x_stringOf__48]) ?_
      exact Kr_ite (Kr_c rfl (ih _ _ _)) (Kr_ite (Kr_ite (Kr_ite (Kr_c rfl (ih _ _ _)) (Kr_no _)) (Kr_no _)) (Kr_c rfl (ih _ _ _)))
    | 3 =>
      refine Kr_eq (by rw [x_stringOf__48]) ?_
      exact Kr_c rfl (ih _ _ _)
    | 4 =>
      refine Kr_eq (by rw [x_stringOf__48]) ?_
      exact Kr_ite (Kr_no _) (Kr_ite (Kr_c rfl (ih _ _ _)) (Kr_no _))
    | 5 =>
      refine Kr_eq (by rw [x_stringOf__48]) ?_
      exact Kr_so rfl
    | b + 6 =>
      refine Kr_eq (by rw [x_stringOf__48]) (Kr_no _)
theorem kr_typeOf : ∀ (k b : Nat) (L : Nat → Int32) (σ : MS), Kr dr (x_typeOf k b L σ) (kr dr σ) := by
  intro k
  induction k with
  | zero => intro b L σ; exact Kr_no _
  | succ k ih =>
    intro b L σ
    match b with
    | 0 =>
      refine Kr_eq (by rw [x_typeOf]) ?_
      exact Kr_c rfl (ih _ _ _)
    | 1 =>
      refine Kr_eq (by rw [x_typeOf]) ?_
      exact Kr_ob (Kr_c rfl (kr_kind _ _ _ _)) (fun _ h252 => Kr_ob (Kr_c h252 (kr_putWord _ _ _ _)) (fun _ h253 => Kr_ob (Kr_c h253 (kr_stringOf__48 _ _ _ _)) (fun _ h254 => Kr_so h254)))
    | b + 2 =>
      refine Kr_eq (by rw [x_typeOf]) (Kr_no _)
theorem kr_putTruth : ∀ (k b : Nat) (L : Nat → Int32) (σ : MS), Kr dr (x_putTruth k b L σ) (kr dr σ) := by
  intro k
  induction k with
  | zero => intro b L σ; exact Kr_no _
  | succ k ih =>
    intro b L σ
    match b with
    | 0 =>
      refine Kr_eq (by rw [x_putTruth]) ?_
      exact Kr_ite (Kr_c rfl (ih _ _ _)) (Kr_c rfl (ih _ _ _))
    | 1 =>
      refine Kr_eq (by rw [x_putTruth]) ?_
      exact Kr_c rfl (ih _ _ _)
    | 2 =>
      refine Kr_eq (by rw [x_putTruth]) ?_
      exact Kr_ob (Kr_c rfl (kr_put _ _ _ _)) (fun _ h255 => Kr_ite (Kr_c h255 (ih _ _ _)) (Kr_c h255 (ih _ _ _)))
    | 3 =>
      refine Kr_eq (by rw [x_putTruth]) ?_
      exact Kr_c rfl (ih _ _ _)
    | 4 =>
      refine Kr_eq (by rw [x_putTruth]) ?_
      exact Kr_ob (Kr_c rfl (kr_put _ _ _ _)) (fun _ h256 => Kr_ite (Kr_c h256 (ih _ _ _)) (Kr_c h256 (ih _ _ _)))
    | 5 =>
      refine Kr_eq (by rw [x_putTruth]) ?_
      exact Kr_c rfl (ih _ _ _)
    | 6 =>
      refine Kr_eq (by rw [x_putTruth]) ?_
      exact Kr_ob (Kr_c rfl (kr_put _ _ _ _)) (fun _ h257 => Kr_ite (Kr_c h257 (ih _ _ _)) (Kr_c h257 (ih _ _ _)))
    | 7 =>
      refine Kr_eq (by rw [x_putTruth]) ?_
      exact Kr_c rfl (ih _ _ _)
    | 8 =>
      refine Kr_eq (by rw [x_putTruth]) ?_
      exact Kr_ob (Kr_c rfl (kr_put _ _ _ _)) (fun _ h258 => Kr_ite (Kr_ob (Kr_c h258 (kr_put _ _ _ _)) (fun _ h259 => Kr_c h259 (ih _ _ _))) (Kr_c h258 (ih _ _ _)))
    | 9 =>
      refine Kr_eq (by rw [x_putTruth]) ?_
      exact Kr_so rfl
    | b + 10 =>
      refine Kr_eq (by rw [x_putTruth]) (Kr_no _)
theorem kr_putWhole : ∀ (k b : Nat) (L : Nat → Int32) (σ : MS), Kr dr (x_putWhole k b L σ) (kr dr σ) := by
  intro k
  induction k with
  | zero => intro b L σ; exact Kr_no _
  | succ k ih =>
    intro b L σ
    match b with
    | 0 =>
      refine Kr_eq (by rw [x_putWhole]) ?_
      exact Kr_ob (Kr_c rfl (kr_loadA _ _ _ _)) (fun _ h260 => Kr_ite (Kr_ite (Kr_c h260 (ih _ _ _)) (Kr_no _)) (Kr_c h260 (ih _ _ _)))
    | 1 =>
      refine Kr_eq (by rw [x_putWhole]) ?_
      exact Kr_c rfl (ih _ _ _)
    | 2 =>
      refine Kr_eq (by rw [x_putWhole]) ?_
      exact Kr_ite (Kr_c rfl (ih _ _ _)) (Kr_c rfl (ih _ _ _))
    | 3 =>
      refine Kr_eq (by rw [x_putWhole]) ?_
      exact Kr_ite (Kr_c rfl (ih _ _ _)) (Kr_ite (Kr_ite (Kr_no _) (Kr_ite (Kr_c rfl (ih _ _ _)) (Kr_no _))) (Kr_no _))
    | 4 =>
      refine Kr_eq (by rw [x_putWhole]) ?_
      exact Kr_ite (Kr_no _) (Kr_c rfl (ih _ _ _))
    | 5 =>
      refine Kr_eq (by rw [x_putWhole]) ?_
      exact Kr_ite (Kr_c rfl (ih _ _ _)) (Kr_no _)
    | 6 =>
      refine Kr_eq (by rw [x_putWhole]) ?_
      exact Kr_c rfl (ih _ _ _)
    | 7 =>
      refine Kr_eq (by rw [x_putWhole]) ?_
      exact Kr_ite (Kr_c rfl (ih _ _ _)) (Kr_ite (Kr_ite (Kr_c rfl (ih _ _ _)) (Kr_c rfl (ih _ _ _))) (Kr_no _))
    | 8 =>
      refine Kr_eq (by rw [x_putWhole]) ?_
      exact Kr_c rfl (ih _ _ _)
    | 9 =>
      refine Kr_eq (by rw [x_putWhole]) ?_
      exact Kr_ob (Kr_c rfl (kr_signOf _ _ _ _)) (fun _ h261 => Kr_ite (Kr_c h261 (ih _ _ _)) (Kr_ob (Kr_c h261 (kr_put _ _ _ _)) (fun _ h262 => Kr_c h262 (ih _ _ _))))
    | 10 =>
      refine Kr_eq (by rw [x_putWhole]) ?_
      exact Kr_c rfl (ih _ _ _)
    | 11 =>
      refine Kr_eq (by rw [x_putWhole]) ?_
      exact Kr_ite (Kr_c rfl (ih _ _ _)) (Kr_ite (Kr_ob (Kr_c rfl (kr_put _ _ _ _)) (fun _ h263 => Kr_c h263 (ih _ _ _))) (Kr_no _))
    | 12 =>
      refine Kr_eq (by rw [x_putWhole]) ?_
      exact Kr_so rfl
    | b + 13 =>
      refine Kr_eq (by rw [x_putWhole]) (Kr_no _)
theorem kr_s_putNumber {X : Nat → Nat → Nat → (Nat → Int32) → MS → Option (Int32 × MS)} (hX : ∀ e m b L (σ : MS), Kr dr (X e m b L σ) (kr dr σ)) (k d b : Nat) (L : Nat → Int32) (σ : MS) : Kr dr (s_putNumber X k d b L σ) (kr dr σ) := by
  match b with
  | 0 => exact Kr_ite (Kr_c rfl (hX _ _ _ _ _)) (Kr_od (fun _ => Kr_ob (Kr_c rfl (hX _ _ _ _ _)) (fun _ h264 => Kr_c h264 (hX _ _ _ _ _))))
  | 1 => exact Kr_ob (Kr_c rfl (kr_put _ _ _ _)) (fun _ h265 => Kr_so h265)
  | b + 2 => exact Kr_no _
theorem kr_GN : ∀ (k d m b : Nat) (L : Nat → Int32) (σ : MS), Kr dr (x_GN k d m b L σ) (kr dr σ) := by
  intro k
  induction k with
  | zero => intro d m b L σ; exact Kr_no _
  | succ k ih =>
    intro d m b L σ
    match m with
    | 0 => exact kr_s_putNumber ih k d b L σ
    | m + 1 => exact Kr_no _
theorem kr_putNumber (k b : Nat) (L : Nat → Int32) (σ : MS) : Kr dr (x_putNumber k b L σ) (kr dr σ) := kr_GN k 12 0 b L σ
theorem kr_s_print {X : Nat → Nat → Nat → (Nat → Int32) → MS → Option (Int32 × MS)} (hX : ∀ e m b L (σ : MS), Kr dr (X e m b L σ) (kr dr σ)) (k d b : Nat) (L : Nat → Int32) (σ : MS) : Kr dr (s_print X k d b L σ) (kr dr σ) := by
  match b with
  | 0 => exact Kr_ob (Kr_c rfl (kr_kind _ _ _ _)) (fun _ h266 => Kr_ite (Kr_ob (Kr_c h266 (kr_put _ _ _ _)) (fun _ h267 => Kr_ob (Kr_c h267 (kr_put _ _ _ _)) (fun _ h268 => Kr_c h268 (hX _ _ _ _ _)))) (Kr_c h266 (hX _ _ _ _ _)))
  | 1 => exact Kr_ite (Kr_ite (Kr_c rfl (hX _ _ _ _ _)) (Kr_c rfl (hX _ _ _ _ _))) (Kr_c rfl (hX _ _ _ _ _))
  | 2 => exact Kr_c rfl (hX _ _ _ _ _)
  | 3 => exact Kr_ob (Kr_c rfl (kr_putTruth _ _ _ _)) (fun _ h269 => Kr_c h269 (hX _ _ _ _ _))
  | 4 => exact Kr_ite (Kr_ob (Kr_c rfl (kr_putWhole _ _ _ _)) (fun _ h270 => Kr_c h270 (hX _ _ _ _ _))) (Kr_c rfl (hX _ _ _ _ _))
  | 5 => exact Kr_ite (Kr_ob (Kr_c rfl (kr_put _ _ _ _)) (fun _ h271 => Kr_ite (Kr_ob (Kr_c h271 (kr_putNumber _ _ _ _)) (fun _ h272 => Kr_c h272 (hX _ _ _ _ _))) (Kr_no _))) (Kr_c rfl (hX _ _ _ _ _))
  | 6 => exact Kr_ite (Kr_ite (Kr_ob (Kr_c rfl (kr_put _ _ _ _)) (fun _ h273 => Kr_c h273 (hX _ _ _ _ _))) (Kr_c rfl (hX _ _ _ _ _))) (Kr_c rfl (hX _ _ _ _ _))
  | 7 => exact Kr_c rfl (hX _ _ _ _ _)
  | 8 => exact Kr_ite (Kr_ite (Kr_c rfl (hX _ _ _ _ _)) (Kr_ite (Kr_ob (Kr_c rfl (kr_put _ _ _ _)) (fun _ h274 => Kr_c h274 (hX _ _ _ _ _))) (Kr_no _))) (Kr_no _)
  | 9 => exact Kr_ite (Kr_ob (Kr_c rfl (kr_put _ _ _ _)) (fun _ h275 => Kr_c h275 (hX _ _ _ _ _))) (Kr_c rfl (hX _ _ _ _ _))
  | 10 => exact Kr_ite (Kr_c rfl (hX _ _ _ _ _)) (Kr_c rfl (hX _ _ _ _ _))
  | 11 => exact Kr_c rfl (hX _ _ _ _ _)
  | 12 => exact Kr_ob (Kr_c rfl (kr_put _ _ _ _)) (fun _ h276 => Kr_c h276 (hX _ _ _ _ _))
  | 13 => exact Kr_ite (Kr_ite (Kr_c rfl (hX _ _ _ _ _)) (Kr_ite (Kr_c rfl (hX _ _ _ _ _)) (Kr_ob (Kr_c rfl (kr_put _ _ _ _)) (fun _ h277 => Kr_ob (Kr_c h277 (kr_put _ _ _ _)) (fun _ h278 => Kr_c h278 (hX _ _ _ _ _)))))) (Kr_no _)
  | 14 => exact Kr_ite (Kr_od (fun _ => Kr_ob (Kr_c rfl (hX _ _ _ _ _)) (fun _ h279 => Kr_c h279 (hX _ _ _ _ _)))) (Kr_no _)
  | 15 => exact Kr_ite (Kr_c rfl (hX _ _ _ _ _)) (Kr_c rfl (hX _ _ _ _ _))
  | 16 => exact Kr_c rfl (hX _ _ _ _ _)
  | 17 => exact Kr_ob (Kr_c rfl (kr_put _ _ _ _)) (fun _ h280 => Kr_c h280 (hX _ _ _ _ _))
  | 18 => exact Kr_so rfl
  | b + 19 => exact Kr_no _
theorem kr_GP : ∀ (k d m b : Nat) (L : Nat → Int32) (σ : MS), Kr dr (x_GP k d m b L σ) (kr dr σ) := by
  intro k
  induction k with
  | zero => intro d m b L σ; exact Kr_no _
  | succ k ih =>
    intro d m b L σ
    match m with
    | 0 => exact kr_s_print ih k d b L σ
    | m + 1 => exact Kr_no _
theorem kr_print (k b : Nat) (L : Nat → Int32) (σ : MS) : Kr dr (x_print k b L σ) (kr dr σ) := kr_GP k 40 0 b L σ
theorem kr_character : ∀ (k b : Nat) (L : Nat → Int32) (σ : MS), Kr dr (x_character k b L σ) (kr dr σ) := by
  intro k
  induction k with
  | zero => intro b L σ; exact Kr_no _
  | succ k ih =>
    intro b L σ
    match b with
    | 0 =>
      refine Kr_eq (by rw [x_character]) ?_
      exact Kr_ob (Kr_c rfl (kr_kind _ _ _ _)) (fun _ h281 => Kr_ite (Kr_c h281 (ih _ _ _)) (Kr_ob (Kr_c h281 (kr_wrongKind _ _ _ _)) (fun _ h282 => Kr_so h282)))
    | 1 =>
      refine Kr_eq (by rw [x_character]) ?_
      exact Kr_ob (Kr_c rfl (kr_intOf _ _ _ _ _)) (fun _ h283 => Kr_ite (Kr_c h283 (ih _ _ _)) (Kr_ite (Kr_c h283 (ih _ _ _)) (Kr_c h283 (ih _ _ _))))
    | 2 =>
      refine Kr_eq (by rw [x_character]) ?_
      exact Kr_ob (Kr_c rfl (kr_fail _ _ _ _)) (fun _ h284 => Kr_so h284)
    | 3 =>
      refine Kr_eq (by rw [x_character]) ?_
      exact Kr_ob (Kr_c rfl (kr_byteString _ _ _ _)) (fun _ h285 => Kr_so h285)
    | b + 4 =>
      refine Kr_eq (by rw [x_character]) (Kr_no _)
theorem kr_codeOf : ∀ (k b : Nat) (L : Nat → Int32) (σ : MS), Kr dr (x_codeOf k b L σ) (kr dr σ) := by
  intro k
  induction k with
  | zero => intro b L σ; exact Kr_no _
  | succ k ih =>
    intro b L σ
    match b with
    | 0 =>
      refine Kr_eq (by rw [x_codeOf]) ?_
      exact Kr_ob (Kr_c rfl (kr_kind _ _ _ _)) (fun _ h286 => Kr_ite (Kr_c h286 (ih _ _ _)) (Kr_ob (Kr_c h286 (kr_wrongKind _ _ _ _)) (fun _ h287 => Kr_so h287)))
    | 1 =>
      refine Kr_eq (by rw [x_codeOf]) ?_
      exact Kr_ite (Kr_ite (Kr_c rfl (ih _ _ _)) (Kr_ob (Kr_c rfl (kr_fail _ _ _ _)) (fun _ h288 => Kr_so h288))) (Kr_no _)
    | 2 =>
      refine Kr_eq (by rw [x_codeOf]) ?_
      exact Kr_ite (Kr_ob (Kr_c rfl (kr_small _ _ _ _)) (fun _ h289 => Kr_so h289)) (Kr_no _)
    | b + 3 =>
      refine Kr_eq (by rw [x_codeOf]) (Kr_no _)
theorem kr_reversed : ∀ (k b : Nat) (L : Nat → Int32) (σ : MS), Kr dr (x_reversed k b L σ) (kr dr σ) := by
  intro k
  induction k with
  | zero => intro b L σ; exact Kr_no _
  | succ k ih =>
    intro b L σ
    match b with
    | 0 =>
      refine Kr_eq (by rw [x_reversed]) ?_
      exact Kr_ob (Kr_c rfl (kr_kind _ _ _ _)) (fun _ h290 => Kr_ite (Kr_c h290 (ih _ _ _)) (Kr_ite (Kr_c h290 (ih _ _ _)) (Kr_ob (Kr_c h290 (kr_wrongKind _ _ _ _)) (fun _ h291 => Kr_so h291))))
    | 1 =>
      refine Kr_eq (by rw [x_reversed]) ?_
      exact Kr_ite (Kr_ite (Kr_c rfl (ih _ _ _)) (Kr_c rfl (ih _ _ _))) (Kr_no _)
    | 2 =>
      refine Kr_eq (by rw [x_reversed]) ?_
      exact Kr_ite (Kr_c rfl (ih _ _ _)) (Kr_ite (Kr_ite (Kr_c rfl (ih _ _ _)) (Kr_no _)) (Kr_no _))
    | 3 =>
      refine Kr_eq (by rw [x_reversed]) ?_
      exact Kr_c rfl (ih _ _ _)
    | 4 =>
      refine Kr_eq (by rw [x_reversed]) ?_
      exact Kr_ob (Kr_c rfl (kr_stringOf__51 _ _ _ _)) (fun _ h292 => Kr_so h292)
    | 5 =>
      refine Kr_eq (by rw [x_reversed]) ?_
      exact Kr_c rfl (ih _ _ _)
    | 6 =>
      refine Kr_eq (by rw [x_reversed]) ?_
      exact Kr_ite (Kr_c rfl (ih _ _ _)) (Kr_ite (Kr_ob (Kr_c rfl (kr_push _ _ _ _)) (fun _ h293 => Kr_c h293 (ih _ _ _))) (Kr_no _))
    | 7 =>
      refine Kr_eq (by rw [x_reversed]) ?_
      exact Kr_ob (Kr_c rfl (kr_tupleOf _ _ _ _)) (fun _ h294 => Kr_so h294)
    | b + 8 =>
      refine Kr_eq (by rw [x_reversed]) (Kr_no _)
/-- functions that draw nothing -/
def Fok (v : Int32) : Prop := ∃ u, v = nI u ∧ ((39 ≤ u ∧ u ≤ 47) ∨ u = 50)
theorem kr_function : ∀ (k b : Nat) (L : Nat → Int32) (σ : MS), b < 18 → (b = 0 → Fok (L 1)) → Kr dr (x_function k b L σ) (kr dr σ) := by
  intro k
  induction k with
  | zero => intro b L σ _ _; exact Kr_no _
  | succ k ih =>
    intro b L σ hb hF
    match b, hb, hF with
    | 0, _, hF =>
      refine Kr_eq (by rw [x_function]) ?_
      refine Kr_ob (kr_kind _ _ _ _) (fun r h => ?_)
      obtain ⟨u, hu, hor⟩ := hF rfl
      rw [hu]
      have : u = 39 ∨ u = 40 ∨ u = 41 ∨ u = 42 ∨ u = 43 ∨ u = 44 ∨ u = 45 ∨ u = 46 ∨ u = 47 ∨ u = 50 := by omega
      rcases this with rfl | rfl | rfl | rfl | rfl | rfl | rfl | rfl | rfl | rfl
      · exact Kr_c h (ih 1 _ _ (by decide) (fun z => absurd z (by decide)))
      · exact Kr_c h (ih 5 _ _ (by decide) (fun z => absurd z (by decide)))
      · exact Kr_c h (ih 9 _ _ (by decide) (fun z => absurd z (by decide)))
      · exact Kr_c h (ih 10 _ _ (by decide) (fun z => absurd z (by decide)))
      · exact Kr_c h (ih 11 _ _ (by decide) (fun z => absurd z (by decide)))
      · exact Kr_c h (ih 12 _ _ (by decide) (fun z => absurd z (by decide)))
      · exact Kr_c h (ih 13 _ _ (by decide) (fun z => absurd z (by decide)))
      · exact Kr_c h (ih 15 _ _ (by decide) (fun z => absurd z (by decide)))
      · exact Kr_c h (ih 16 _ _ (by decide) (fun z => absurd z (by decide)))
      · exact Kr_c h (ih 17 _ _ (by decide) (fun z => absurd z (by decide)))
    | 1, _, _ =>
      refine Kr_eq (by rw [x_function]) ?_
      exact Kr_ite (Kr_c rfl (ih _ _ _ (by decide) (fun z => absurd z (by decide)))) (Kr_ob (Kr_c rfl (kr_wrongKind _ _ _ _)) (fun _ h295 => Kr_c h295 (ih _ _ _ (by decide) (fun z => absurd z (by decide)))))
    | 2, _, _ =>
      refine Kr_eq (by rw [x_function]) ?_
      exact Kr_ob (Kr_c rfl (kr_signOf _ _ _ _)) (fun _ h296 => Kr_ite (Kr_c h296 (ih _ _ _ (by decide) (fun z => absurd z (by decide)))) (Kr_ob (Kr_c h296 (kr_other _ _ _ _)) (fun _ h297 => Kr_c h297 (ih _ _ _ (by decide) (fun z => absurd z (by decide))))))
    | 3, _, _ =>
      refine Kr_eq (by rw [x_function]) ?_
      exact Kr_c rfl (ih _ _ _ (by decide) (fun z => absurd z (by decide)))
    | 4, _, _ =>
      refine Kr_eq (by rw [x_function]) ?_
      exact Kr_so rfl
    | 5, _, _ =>
      refine Kr_eq (by rw [x_function]) ?_
      exact Kr_ite (Kr_c rfl (ih _ _ _ (by decide) (fun z => absurd z (by decide)))) (Kr_ob (Kr_c rfl (kr_wrongKind _ _ _ _)) (fun _ h298 => Kr_c h298 (ih _ _ _ (by decide) (fun z => absurd z (by decide)))))
    | 6, _, _ =>
      refine Kr_eq (by rw [x_function]) ?_
      exact Kr_ite (Kr_ite (Kr_c rfl (ih _ _ _ (by decide) (fun z => absurd z (by decide)))) (Kr_c rfl (ih _ _ _ (by decide) (fun z => absurd z (by decide))))) (Kr_no _)
    | 7, _, _ =>
      refine Kr_eq (by rw [x_function]) ?_
      exact Kr_ite (Kr_c rfl (ih _ _ _ (by decide) (fun z => absurd z (by decide)))) (Kr_no _)
    | 8, _, _ =>
      refine Kr_eq (by rw [x_function]) ?_
      exact Kr_so rfl
    | 9, _, _ =>
      refine Kr_eq (by rw [x_function]) ?_
      exact Kr_ob (Kr_c rfl (kr_side _ _ _ _)) (fun _ h299 => Kr_so h299)
    | 10, _, _ =>
      refine Kr_eq (by rw [x_function]) ?_
      exact Kr_ob (Kr_c rfl (kr_side _ _ _ _)) (fun _ h300 => Kr_so h300)
    | 11, _, _ =>
      refine Kr_eq (by rw [x_function]) ?_
      exact Kr_ob (Kr_c rfl (kr_powerSet _ _ _ _)) (fun _ h301 => Kr_so h301)
    | 12, _, _ =>
      refine Kr_eq (by rw [x_function]) ?_
      exact Kr_ob (Kr_c rfl (kr_typeOf _ _ _ _)) (fun _ h302 => Kr_so h302)
    | 13, _, _ =>
      refine Kr_eq (by rw [x_function]) ?_
      exact Kr_c rfl (ih _ _ _ (by decide) (fun z => absurd z (by decide)))
    | 14, _, _ =>
      refine Kr_eq (by rw [x_function]) ?_
      exact Kr_ob (Kr_c rfl (kr_print _ _ _ _)) (fun _ h303 => Kr_ob (Kr_c h303 (kr_stringOf__48 _ _ _ _)) (fun _ h304 => Kr_so h304))
    | 15, _, _ =>
      refine Kr_eq (by rw [x_function]) ?_
      exact Kr_ob (Kr_c rfl (kr_character _ _ _ _)) (fun _ h305 => Kr_so h305)
    | 16, _, _ =>
      refine Kr_eq (by rw [x_function]) ?_
      exact Kr_ob (Kr_c rfl (kr_codeOf _ _ _ _)) (fun _ h306 => Kr_so h306)
    | 17, _, _ =>
      refine Kr_eq (by rw [x_function]) ?_
      exact Kr_ob (Kr_c rfl (kr_reversed _ _ _ _)) (fun _ h307 => Kr_so h307)
    | b + 18, hb, _ => exact absurd hb (by omega)
theorem kr_tw {w : Nat → Int64} {σ : MS} : kr true (σ.1, w, σ.2.2) = kr true σ := by
  unfold kr
  rw [if_pos rfl, if_pos rfl]
theorem kt_draw : ∀ (k b : Nat) (L : Nat → Int32) (σ : MS), Kr true (x_draw k b L σ) (kr true σ) := by
  intro k
  induction k with
  | zero => intro b L σ; exact Kr_no _
  | succ k ih =>
    intro b L σ
    match b with
    | 0 =>
      refine Kr_eq (by rw [x_draw]) ?_
      exact Kr_c kr_tw (ih _ _ _)
    | 1 =>
      refine Kr_eq (by rw [x_draw]) ?_
      exact Kr_ite (Kr_no _) (Kr_so rfl)
    | b + 2 =>
      refine Kr_eq (by rw [x_draw]) (Kr_no _)
theorem kt_drawn : ∀ (k b : Nat) (L : Nat → Int32) (σ : MS), Kr true (x_drawn k b L σ) (kr true σ) := by
  intro k
  induction k with
  | zero => intro b L σ; exact Kr_no _
  | succ k ih =>
    intro b L σ
    match b with
    | 0 =>
      refine Kr_eq (by rw [x_drawn]) ?_
      exact Kr_ob (Kr_c rfl (kr_kind _ _ _ _)) (fun _ h308 => Kr_ite (Kr_ite (Kr_ite (Kr_c h308 (ih _ _ _)) (Kr_c h308 (ih _ _ _))) (Kr_no _)) (Kr_c h308 (ih _ _ _)))
    | 1 =>
      refine Kr_eq (by rw [x_drawn]) ?_
      exact Kr_ob (Kr_c rfl (kr_intOf _ _ _ _ _)) (fun _ h309 => Kr_c h309 (ih _ _ _))
    | 2 =>
      refine Kr_eq (by rw [x_drawn]) ?_
      exact Kr_ite (Kr_ite (Kr_ob (Kr_c rfl (kr_signOf _ _ _ _)) (fun _ h310 => Kr_ite (Kr_c h310 (ih _ _ _)) (Kr_ite (Kr_ite (Kr_ite (Kr_ite (Kr_c h310 (ih _ _ _)) (Kr_c h310 (ih _ _ _))) (Kr_no _)) (Kr_c h310 (ih _ _ _))) (Kr_no _)))) (Kr_c rfl (ih _ _ _))) (Kr_no _)
    | 3 =>
      refine Kr_eq (by rw [x_drawn]) ?_
      exact Kr_c rfl (ih _ _ _)
    | 4 =>
      refine Kr_eq (by rw [x_drawn]) ?_
      exact Kr_ite (Kr_c rfl (ih _ _ _)) (Kr_ite (Kr_ite (Kr_c rfl (ih _ _ _)) (Kr_c rfl (ih _ _ _))) (Kr_c rfl (ih _ _ _)))
    | 5 =>
      refine Kr_eq (by rw [x_drawn]) ?_
      exact Kr_ob (Kr_c rfl (kr_fail _ _ _ _)) (fun _ h311 => Kr_so h311)
    | 6 =>
      refine Kr_eq (by rw [x_drawn]) ?_
      exact Kr_ite (Kr_c rfl (ih _ _ _)) (Kr_c rfl (ih _ _ _))
    | 7 =>
      refine Kr_eq (by rw [x_drawn]) ?_
      exact Kr_c rfl (ih _ _ _)
    | 8 =>
      refine Kr_eq (by rw [x_drawn]) ?_
      exact Kr_ob (Kr_c rfl (kt_draw _ _ _ _)) (fun _ h312 => Kr_ob (Kr_c h312 (kr_small _ _ _ _)) (fun _ h313 => Kr_so h313))
    | 9 =>
      refine Kr_eq (by rw [x_drawn]) ?_
      exact Kr_ite (Kr_c rfl (ih _ _ _)) (Kr_ob (Kr_c rfl (kr_wrongKind _ _ _ _)) (fun _ h314 => Kr_so h314))
    | 10 =>
      refine Kr_eq (by rw [x_drawn]) ?_
      exact Kr_ite (Kr_ite (Kr_c rfl (ih _ _ _)) (Kr_c rfl (ih _ _ _))) (Kr_no _)
    | 11 =>
      refine Kr_eq (by rw [x_drawn]) ?_
      exact Kr_ite (Kr_ob (Kr_c rfl (kt_draw _ _ _ _)) (fun _ h315 => Kr_ob (Kr_c h315 (kr_memberAt _ _ _ _)) (fun _ h316 => Kr_c h316 (ih _ _ _)))) (Kr_no _)
    | 12 =>
      refine Kr_eq (by rw [x_drawn]) ?_
      exact Kr_so rfl
    | b + 13 =>
      refine Kr_eq (by rw [x_drawn]) (Kr_no _)
theorem kt_function : ∀ (k b : Nat) (L : Nat → Int32) (σ : MS), Kr true (x_function k b L σ) (kr true σ) := by
  intro k
  induction k with
  | zero => intro b L σ; exact Kr_no _
  | succ k ih =>
    intro b L σ
    match b with
    | 0 =>
      refine Kr_eq (by rw [x_function]) ?_
      exact Kr_ob (Kr_c rfl (kr_kind _ _ _ _)) (fun _ h317 => Kr_ite (Kr_c h317 (ih _ _ _)) (Kr_ite (Kr_c h317 (ih _ _ _)) (Kr_ite (Kr_c h317 (ih _ _ _)) (Kr_ite (Kr_c h317 (ih _ _ _)) (Kr_ite (Kr_c h317 (ih _ _ _)) (Kr_ite (Kr_c h317 (ih _ _ _)) (Kr_ite (Kr_c h317 (ih _ _ _)) (Kr_ite (Kr_c h317 (ih _ _ _)) (Kr_ite (Kr_c h317 (ih _ _ _)) (Kr_ite (Kr_c h317 (ih _ _ _)) (Kr_ite (Kr_c h317 (ih _ _ _)) (Kr_ite (Kr_c h317 (ih _ _ _)) (Kr_c h317 (ih _ _ _))))))))))))))
    | 1 =>
      refine Kr_eq (by rw [x_function]) ?_
      exact Kr_ite (Kr_c rfl (ih _ _ _)) (Kr_ob (Kr_c rfl (kr_wrongKind _ _ _ _)) (fun _ h318 => Kr_c h318 (ih _ _ _)))
    | 2 =>
      refine Kr_eq (by rw [x_function]) ?_
      exact Kr_ob (Kr_c rfl (kr_signOf _ _ _ _)) (fun _ h319 => Kr_ite (Kr_c h319 (ih _ _ _)) (Kr_ob (Kr_c h319 (kr_other _ _ _ _)) (fun _ h320 => Kr_c h320 (ih _ _ _))))
    | 3 =>
      refine Kr_eq (by rw [x_function]) ?_
      exact Kr_c rfl (ih _ _ _)
    | 4 =>
      refine Kr_eq (by rw [x_function]) ?_
      exact Kr_so rfl
    | 5 =>
      refine Kr_eq (by rw [x_function]) ?_
      exact Kr_ite (Kr_c rfl (ih _ _ _)) (Kr_ob (Kr_c rfl (kr_wrongKind _ _ _ _)) (fun _ h321 => Kr_c h321 (ih _ _ _)))
    | 6 =>
      refine Kr_eq (by rw [x_function]) ?_
      exact Kr_ite (Kr_ite (Kr_c rfl (ih _ _ _)) (Kr_c rfl (ih _ _ _))) (Kr_no _)
    | 7 =>
      refine Kr_eq (by rw [x_function]) ?_
      exact Kr_ite (Kr_c rfl (ih _ _ _)) (Kr_no _)
    | 8 =>
      refine Kr_eq (by rw [x_function]) ?_
      exact Kr_so rfl
    | 9 =>
      refine Kr_eq (by rw [x_function]) ?_
      exact Kr_ob (Kr_c rfl (kr_side _ _ _ _)) (fun _ h322 => Kr_so h322)
    | 10 =>
      refine Kr_eq (by rw [x_function]) ?_
      exact Kr_ob (Kr_c rfl (kr_side _ _ _ _)) (fun _ h323 => Kr_so h323)
    | 11 =>
      refine Kr_eq (by rw [x_function]) ?_
      exact Kr_ob (Kr_c rfl (kr_powerSet _ _ _ _)) (fun _ h324 => Kr_so h324)
    | 12 =>
      refine Kr_eq (by rw [x_function]) ?_
      exact Kr_ob (Kr_c rfl (kr_typeOf _ _ _ _)) (fun _ h325 => Kr_so h325)
    | 13 =>
      refine Kr_eq (by rw [x_function]) ?_
      exact Kr_c rfl (ih _ _ _)
    | 14 =>
      refine Kr_eq (by rw [x_function]) ?_
      exact Kr_ob (Kr_c rfl (kr_print _ _ _ _)) (fun _ h326 => Kr_ob (Kr_c h326 (kr_stringOf__48 _ _ _ _)) (fun _ h327 => Kr_so h327))
    | 15 =>
      refine Kr_eq (by rw [x_function]) ?_
      exact Kr_ob (Kr_c rfl (kr_character _ _ _ _)) (fun _ h328 => Kr_so h328)
    | 16 =>
      refine Kr_eq (by rw [x_function]) ?_
      exact Kr_ob (Kr_c rfl (kr_codeOf _ _ _ _)) (fun _ h329 => Kr_so h329)
    | 17 =>
      refine Kr_eq (by rw [x_function]) ?_
      exact Kr_ob (Kr_c rfl (kr_reversed _ _ _ _)) (fun _ h330 => Kr_so h330)
    | 18 =>
      refine Kr_eq (by rw [x_function]) ?_
      exact Kr_ob (Kr_c rfl (kt_drawn _ _ _ _)) (fun _ h331 => Kr_so h331)
    | b + 19 =>
      refine Kr_eq (by rw [x_function]) (Kr_no _)
theorem kr_single (k : Nat) (L : Nat → Int32) (σ : MS) (h : σ.2.2 4 (L 1).toNatClampNeg = 9 → dr = true ∨ Fok (σ.2.2 5 (L 1).toNatClampNeg)) : Kr dr (x_single k 0 L σ) (kr dr σ) := by
  have fin : ∀ k L (σ : MS), (dr = true ∨ Fok (σ.2.2 5 (L 1).toNatClampNeg)) → Kr dr (x_single k 1 L σ) (kr dr σ) := fun k L σ h => by
    cases k with
    | zero => exact Kr_no _
    | succ k =>
      refine Kr_eq (by rw [x_single]) ?_
      rcases h with h | h
      · subst h
        exact Kr_ite (Kr_ob (Kr_c rfl (kt_function _ 0 _ _)) (fun _ z => Kr_so z)) (Kr_no _)
      · exact Kr_ite (Kr_ob (Kr_c rfl (kr_function _ 0 _ _ (by decide) (fun _ => h))) (fun _ z => Kr_so z)) (Kr_no _)
  have oth : ∀ b k L (σ : MS), (b = 2 ∨ b = 3 ∨ b = 4 ∨ b = 5) → Kr dr (x_single k b L σ) (kr dr σ) := fun b k L σ hb => by
    cases k with
    | zero => exact Kr_no _
    | succ k =>
      rcases hb with rfl | rfl | rfl | rfl
      · refine Kr_eq (by rw [x_single]) ?_
        exact Kr_ob (Kr_c rfl (kr_negative _ _ _ _)) (fun _ z => Kr_so z)
      · refine Kr_eq (by rw [x_single]) ?_
        exact Kr_ob (Kr_c rfl (kr_many _ _ _ _)) (fun _ z => Kr_so z)
      · refine Kr_eq (by rw [x_single]) ?_
        exact Kr_ob (Kr_c rfl (kr_turned _ _ _ _)) (fun _ z => Kr_so z)
      · refine Kr_eq (by rw [x_single]) ?_
        exact Kr_ite (Kr_ob (Kr_c rfl (kr_reduce _ _ _ _)) (fun _ z => Kr_so z)) (Kr_no _)
  cases k with
  | zero => exact Kr_no _
  | succ k =>
    refine Kr_eq (by rw [x_single]) ?_
    refine Kr_ite ?_ (Kr_no _)
    by_cases h9 : σ.2.2 4 (L 1).toNatClampNeg = 9
    · rw [if_pos h9]; exact fin k L σ (h h9)
    · rw [if_neg h9]
      exact Kr_ite (oth 2 _ _ _ (by decide)) (Kr_ite (oth 3 _ _ _ (by decide)) (Kr_ite (oth 4 _ _ _ (by decide)) (oth 5 _ _ _ (by decide))))
/-- the error stays, too -/
def k6 (dr : Bool) (σ : MS) : KRt × Int32 := (kr dr σ, σ.1 56)
def K6 (dr : Bool) (x : Option (Int32 × MS)) (w : KRt × Int32) : Prop := ∀ r, x = some r → k6 dr r.2 = w
theorem K6_no (w : KRt × Int32) : K6 dr none w := fun _ h => by cases h
theorem K6_so {r : Int32 × MS} {w : KRt × Int32} (h : k6 dr r.2 = w) : K6 dr (some r) w := fun _ e => by cases e; exact h
theorem K6_eq {a a' : Option (Int32 × MS)} {w : KRt × Int32} (h1 : a = a') (h : K6 dr a' w) : K6 dr a w := by rw [h1]; exact h
theorem K6_c {a : Option (Int32 × MS)} {w w' : KRt × Int32} (h : w' = w) (t : K6 dr a w') : K6 dr a w := h ▸ t
theorem K6_ob {x : Option (Int32 × MS)} {f : Int32 × MS → Option (Int32 × MS)} {w : KRt × Int32} (h1 : K6 dr x w) (h2 : ∀ r, k6 dr r.2 = w → K6 dr (f r) w) : K6 dr (ob x f) w := by
  intro r hr
  cases x with
  | none => cases hr
  | some s => exact h2 s (h1 s rfl) r hr
theorem K6_ite {c : Prop} {_ : Decidable c} {a b : Option (Int32 × MS)} {w : KRt × Int32} (h1 : K6 dr a w) (h2 : K6 dr b w) : K6 dr (if c then a else b) w := by
  by_cases h : c
  · rw [if_pos h]; exact h1
  · rw [if_neg h]; exact h2
theorem k6_kind : ∀ (k b : Nat) (L : Nat → Int32) (σ : MS), K6 dr (x_kind k b L σ) (k6 dr σ) := by
  intro k
  induction k with
  | zero => intro b L σ; exact K6_no _
  | succ k ih =>
    intro b L σ
    match b with
    | 0 =>
      refine K6_eq (by rw [x_kind]) ?_
      exact K6_ite (K6_c rfl (ih _ _ _)) (K6_c rfl (ih _ _ _))
    | 1 =>
      refine K6_eq (by rw [x_kind]) ?_
      exact K6_ite (K6_c rfl (ih _ _ _)) (K6_c rfl (ih _ _ _))
    | 2 =>
      refine K6_eq (by rw [x_kind]) ?_
      exact K6_ite (K6_c rfl (ih _ _ _)) (K6_no _)
    | 3 =>
      refine K6_eq (by rw [x_kind]) ?_
      exact K6_so rfl
    | b + 4 =>
      refine K6_eq (by rw [x_kind]) (K6_no _)
theorem k6_isRow : ∀ (k b : Nat) (L : Nat → Int32) (σ : MS), K6 dr (x_isRow k b L σ) (k6 dr σ) := by
  intro k
  induction k with
  | zero => intro b L σ; exact K6_no _
  | succ k ih =>
    intro b L σ
    match b with
    | 0 =>
      refine K6_eq (by rw [x_isRow]) ?_
      exact K6_ob (K6_c rfl (k6_kind _ _ _ _)) (fun _ h332 => K6_ite (K6_c h332 (ih _ _ _)) (K6_c h332 (ih _ _ _)))
    | 1 =>
      refine K6_eq (by rw [x_isRow]) ?_
      exact K6_c rfl (ih _ _ _)
    | 2 =>
      refine K6_eq (by rw [x_isRow]) ?_
      exact K6_ite (K6_so rfl) (K6_no _)
    | b + 3 =>
      refine K6_eq (by rw [x_isRow]) (K6_no _)
theorem k6_pop : ∀ (k b : Nat) (L : Nat → Int32) (σ : MS), K6 dr (x_pop k b L σ) (k6 dr σ) := by
  intro k
  induction k with
  | zero => intro b L σ; exact K6_no _
  | succ k ih =>
    intro b L σ
    match b with
    | 0 =>
      refine K6_eq (by rw [x_pop]) ?_
      exact K6_c rfl (ih _ _ _)
    | 1 =>
      refine K6_eq (by rw [x_pop]) ?_
      exact K6_ite (K6_so rfl) (K6_no _)
    | b + 2 =>
      refine K6_eq (by rw [x_pop]) (K6_no _)
end KRS
