/-! The seed and the long scalars stay (reference; made by wl.py). -/
def Wk (x : Option (Int32 × MS)) (w : Nat → Int64) : Prop := ∀ r, x = some r → r.2.2.1 = w
theorem Wk_no (w : Nat → Int64) : Wk none w := fun _ h => by cases h
theorem Wk_so {r : Int32 × MS} {w : Nat → Int64} (h : r.2.2.1 = w) : Wk (some r) w := fun _ e => by cases e; exact h
theorem Wk_eq {a a' : Option (Int32 × MS)} {w : Nat → Int64} (h1 : a = a') (h : Wk a' w) : Wk a w := by rw [h1]; exact h
theorem Wk_c {a : Option (Int32 × MS)} {w w' : Nat → Int64} (h : w' = w) (t : Wk a w') : Wk a w := h ▸ t
theorem Wk_ob {x : Option (Int32 × MS)} {f : Int32 × MS → Option (Int32 × MS)} {w : Nat → Int64} (h1 : Wk x w) (h2 : ∀ r, r.2.2.1 = w → Wk (f r) w) : Wk (ob x f) w := by
  intro r hr
  cases x with
  | none => cases hr
  | some s => exact h2 s (h1 s rfl) r hr
theorem Wk_ite {c : Prop} {_ : Decidable c} {a b : Option (Int32 × MS)} {w : Nat → Int64} (h1 : Wk a w) (h2 : Wk b w) : Wk (if c then a else b) w := by
  by_cases h : c
  · rw [if_pos h]; exact h1
  · rw [if_neg h]; exact h2
theorem Wk_od {d : Nat} {f : Nat → Option (Int32 × MS)} {w : Nat → Int64} (h : ∀ e, Wk (f e) w) : Wk (od d f) w := by
  cases d with
  | zero => exact Wk_no _
  | succ e => exact h e
theorem wl_copied : ∀ (k b : Nat) (L : Nat → Int32) (σ : MS), Wk (x_copied k b L σ) σ.2.1 := by
  intro k
  induction k with
  | zero => intro b L σ; exact Wk_no _
  | succ k ih =>
    intro b L σ
    match b with
    | 0 =>
      refine Wk_eq (by rw [x_copied]) ?_
      exact Wk_ite (Wk_c rfl (ih _ _ _)) (Wk_so rfl)
    | 1 =>
      refine Wk_eq (by rw [x_copied]) ?_
      exact Wk_ite (Wk_ite (Wk_ite (Wk_so rfl) (Wk_no _)) (Wk_c rfl (ih _ _ _))) (Wk_no _)
    | 2 =>
      refine Wk_eq (by rw [x_copied]) ?_
      exact Wk_ite (Wk_c rfl (ih _ _ _)) (Wk_no _)
    | 3 =>
      refine Wk_eq (by rw [x_copied]) ?_
      exact Wk_c rfl (ih _ _ _)
    | 4 =>
      refine Wk_eq (by rw [x_copied]) ?_
      exact Wk_ite (Wk_c rfl (ih _ _ _)) (Wk_ite (Wk_ite (Wk_c rfl (ih _ _ _)) (Wk_no _)) (Wk_no _))
    | 5 =>
      refine Wk_eq (by rw [x_copied]) ?_
      exact Wk_c rfl (ih _ _ _)
    | 6 =>
      refine Wk_eq (by rw [x_copied]) ?_
      exact Wk_ite (Wk_c rfl (ih _ _ _)) (Wk_no _)
    | 7 =>
      refine Wk_eq (by rw [x_copied]) ?_
      exact Wk_ite (Wk_c rfl (ih _ _ _)) (Wk_no _)
    | 8 =>
      refine Wk_eq (by rw [x_copied]) ?_
      exact Wk_so rfl
    | b + 9 =>
      refine Wk_eq (by rw [x_copied]) (Wk_no _)
theorem wl_copyRow__29 : ∀ (k b : Nat) (L : Nat → Int32) (σ : MS), Wk (x_copyRow__29 k b L σ) σ.2.1 := by
  intro k
  induction k with
  | zero => intro b L σ; exact Wk_no _
  | succ k ih =>
    intro b L σ
    match b with
    | 0 =>
      refine Wk_eq (by rw [x_copyRow__29]) ?_
      exact Wk_c rfl (ih _ _ _)
    | 1 =>
      refine Wk_eq (by rw [x_copyRow__29]) ?_
      exact Wk_ite (Wk_c rfl (ih _ _ _)) (Wk_ite (Wk_ob (Wk_c rfl (wl_copied _ _ _ _)) (fun _ h1 => Wk_ite (Wk_c h1 (ih _ _ _)) (Wk_no _))) (Wk_no _))
    | 2 =>
      refine Wk_eq (by rw [x_copyRow__29]) ?_
      exact Wk_c rfl (ih _ _ _)
    | 3 =>
      refine Wk_eq (by rw [x_copyRow__29]) ?_
      exact Wk_so rfl
    | b + 4 =>
      refine Wk_eq (by rw [x_copyRow__29]) (Wk_no _)
theorem wl_copyRow__30 : ∀ (k b : Nat) (L : Nat → Int32) (σ : MS), Wk (x_copyRow__30 k b L σ) σ.2.1 := by
  intro k
  induction k with
  | zero => intro b L σ; exact Wk_no _
  | succ k ih =>
    intro b L σ
    match b with
    | 0 =>
      refine Wk_eq (by rw [x_copyRow__30]) ?_
      exact Wk_c rfl (ih _ _ _)
    | 1 =>
      refine Wk_eq (by rw [x_copyRow__30]) ?_
      exact Wk_ite (Wk_c rfl (ih _ _ _)) (Wk_ite (Wk_ob (Wk_c rfl (wl_copied _ _ _ _)) (fun _ h2 => Wk_ite (Wk_c h2 (ih _ _ _)) (Wk_no _))) (Wk_no _))
    | 2 =>
      refine Wk_eq (by rw [x_copyRow__30]) ?_
      exact Wk_c rfl (ih _ _ _)
    | 3 =>
      refine Wk_eq (by rw [x_copyRow__30]) ?_
      exact Wk_so rfl
    | b + 4 =>
      refine Wk_eq (by rw [x_copyRow__30]) (Wk_no _)
theorem wl_copyState__30 : ∀ (k b : Nat) (L : Nat → Int32) (σ : MS), Wk (x_copyState__30 k b L σ) σ.2.1 := by
  intro k
  induction k with
  | zero => intro b L σ; exact Wk_no _
  | succ k ih =>
    intro b L σ
    match b with
    | 0 =>
      refine Wk_eq (by rw [x_copyState__30]) ?_
      exact Wk_ob (Wk_c rfl (wl_copyRow__30 _ _ _ _)) (fun _ h3 => Wk_ite (Wk_ob (Wk_c h3 (wl_copyRow__30 _ _ _ _)) (fun _ h4 => Wk_ite (Wk_ob (Wk_c h4 (wl_copyRow__30 _ _ _ _)) (fun _ h5 => Wk_so h5)) (Wk_no _))) (Wk_no _))
    | b + 1 =>
      refine Wk_eq (by rw [x_copyState__30]) (Wk_no _)
theorem wl_copyRow__31 : ∀ (k b : Nat) (L : Nat → Int32) (σ : MS), Wk (x_copyRow__31 k b L σ) σ.2.1 := by
  intro k
  induction k with
  | zero => intro b L σ; exact Wk_no _
  | succ k ih =>
    intro b L σ
    match b with
    | 0 =>
      refine Wk_eq (by rw [x_copyRow__31]) ?_
      exact Wk_c rfl (ih _ _ _)
    | 1 =>
      refine Wk_eq (by rw [x_copyRow__31]) ?_
      exact Wk_ite (Wk_c rfl (ih _ _ _)) (Wk_ite (Wk_ob (Wk_c rfl (wl_copied _ _ _ _)) (fun _ h6 => Wk_ite (Wk_c h6 (ih _ _ _)) (Wk_no _))) (Wk_no _))
    | 2 =>
      refine Wk_eq (by rw [x_copyRow__31]) ?_
      exact Wk_c rfl (ih _ _ _)
    | 3 =>
      refine Wk_eq (by rw [x_copyRow__31]) ?_
      exact Wk_so rfl
    | b + 4 =>
      refine Wk_eq (by rw [x_copyRow__31]) (Wk_no _)
theorem wl_copyState__31 : ∀ (k b : Nat) (L : Nat → Int32) (σ : MS), Wk (x_copyState__31 k b L σ) σ.2.1 := by
  intro k
  induction k with
  | zero => intro b L σ; exact Wk_no _
  | succ k ih =>
    intro b L σ
    match b with
    | 0 =>
      refine Wk_eq (by rw [x_copyState__31]) ?_
      exact Wk_ob (Wk_c rfl (wl_copyRow__31 _ _ _ _)) (fun _ h7 => Wk_ite (Wk_ob (Wk_c h7 (wl_copyRow__31 _ _ _ _)) (fun _ h8 => Wk_ite (Wk_ob (Wk_c h8 (wl_copyRow__31 _ _ _ _)) (fun _ h9 => Wk_so h9)) (Wk_no _))) (Wk_no _))
    | b + 1 =>
      refine Wk_eq (by rw [x_copyState__31]) (Wk_no _)
theorem wl_copyRow__33 : ∀ (k b : Nat) (L : Nat → Int32) (σ : MS), Wk (x_copyRow__33 k b L σ) σ.2.1 := by
  intro k
  induction k with
  | zero => intro b L σ; exact Wk_no _
  | succ k ih =>
    intro b L σ
    match b with
    | 0 =>
      refine Wk_eq (by rw [x_copyRow__33]) ?_
      exact Wk_c rfl (ih _ _ _)
    | 1 =>
      refine Wk_eq (by rw [x_copyRow__33]) ?_
      exact Wk_ite (Wk_c rfl (ih _ _ _)) (Wk_ite (Wk_ob (Wk_c rfl (wl_copied _ _ _ _)) (fun _ h10 => Wk_ite (Wk_c h10 (ih _ _ _)) (Wk_no _))) (Wk_no _))
    | 2 =>
      refine Wk_eq (by rw [x_copyRow__33]) ?_
      exact Wk_c rfl (ih _ _ _)
    | 3 =>
      refine Wk_eq (by rw [x_copyRow__33]) ?_
      exact Wk_so rfl
    | b + 4 =>
      refine Wk_eq (by rw [x_copyRow__33]) (Wk_no _)
theorem wl_copyRow__34 : ∀ (k b : Nat) (L : Nat → Int32) (σ : MS), Wk (x_copyRow__34 k b L σ) σ.2.1 := by
  intro k
  induction k with
  | zero => intro b L σ; exact Wk_no _
  | succ k ih =>
    intro b L σ
    match b with
    | 0 =>
      refine Wk_eq (by rw [x_copyRow__34]) ?_
      exact Wk_c rfl (ih _ _ _)
    | 1 =>
      refine Wk_eq (by rw [x_copyRow__34]) ?_
      exact Wk_ite (Wk_c rfl (ih _ _ _)) (Wk_ite (Wk_ob (Wk_c rfl (wl_copied _ _ _ _)) (fun _ h11 => Wk_ite (Wk_c h11 (ih _ _ _)) (Wk_no _))) (Wk_no _))
    | 2 =>
      refine Wk_eq (by rw [x_copyRow__34]) ?_
      exact Wk_c rfl (ih _ _ _)
    | 3 =>
      refine Wk_eq (by rw [x_copyRow__34]) ?_
      exact Wk_so rfl
    | b + 4 =>
      refine Wk_eq (by rw [x_copyRow__34]) (Wk_no _)
theorem wl_copyRow__36 : ∀ (k b : Nat) (L : Nat → Int32) (σ : MS), Wk (x_copyRow__36 k b L σ) σ.2.1 := by
  intro k
  induction k with
  | zero => intro b L σ; exact Wk_no _
  | succ k ih =>
    intro b L σ
    match b with
    | 0 =>
      refine Wk_eq (by rw [x_copyRow__36]) ?_
      exact Wk_c rfl (ih _ _ _)
    | 1 =>
      refine Wk_eq (by rw [x_copyRow__36]) ?_
      exact Wk_ite (Wk_c rfl (ih _ _ _)) (Wk_ite (Wk_ob (Wk_c rfl (wl_copied _ _ _ _)) (fun _ h12 => Wk_ite (Wk_c h12 (ih _ _ _)) (Wk_no _))) (Wk_no _))
    | 2 =>
      refine Wk_eq (by rw [x_copyRow__36]) ?_
      exact Wk_c rfl (ih _ _ _)
    | 3 =>
      refine Wk_eq (by rw [x_copyRow__36]) ?_
      exact Wk_so rfl
    | b + 4 =>
      refine Wk_eq (by rw [x_copyRow__36]) (Wk_no _)
theorem wl_copyRow__37 : ∀ (k b : Nat) (L : Nat → Int32) (σ : MS), Wk (x_copyRow__37 k b L σ) σ.2.1 := by
  intro k
  induction k with
  | zero => intro b L σ; exact Wk_no _
  | succ k ih =>
    intro b L σ
    match b with
    | 0 =>
      refine Wk_eq (by rw [x_copyRow__37]) ?_
      exact Wk_c rfl (ih _ _ _)
    | 1 =>
      refine Wk_eq (by rw [x_copyRow__37]) ?_
      exact Wk_ite (Wk_c rfl (ih _ _ _)) (Wk_ite (Wk_ob (Wk_c rfl (wl_copied _ _ _ _)) (fun _ h13 => Wk_ite (Wk_c h13 (ih _ _ _)) (Wk_no _))) (Wk_no _))
    | 2 =>
      refine Wk_eq (by rw [x_copyRow__37]) ?_
      exact Wk_c rfl (ih _ _ _)
    | 3 =>
      refine Wk_eq (by rw [x_copyRow__37]) ?_
      exact Wk_so rfl
    | b + 4 =>
      refine Wk_eq (by rw [x_copyRow__37]) (Wk_no _)
theorem wl_copyRow__38 : ∀ (k b : Nat) (L : Nat → Int32) (σ : MS), Wk (x_copyRow__38 k b L σ) σ.2.1 := by
  intro k
  induction k with
  | zero => intro b L σ; exact Wk_no _
  | succ k ih =>
    intro b L σ
    match b with
    | 0 =>
      refine Wk_eq (by rw [x_copyRow__38]) ?_
      exact Wk_c rfl (ih _ _ _)
    | 1 =>
      refine Wk_eq (by rw [x_copyRow__38]) ?_
      exact Wk_ite (Wk_c rfl (ih _ _ _)) (Wk_ite (Wk_ob (Wk_c rfl (wl_copied _ _ _ _)) (fun _ h14 => Wk_ite (Wk_c h14 (ih _ _ _)) (Wk_no _))) (Wk_no _))
    | 2 =>
      refine Wk_eq (by rw [x_copyRow__38]) ?_
      exact Wk_c rfl (ih _ _ _)
    | 3 =>
      refine Wk_eq (by rw [x_copyRow__38]) ?_
      exact Wk_so rfl
    | b + 4 =>
      refine Wk_eq (by rw [x_copyRow__38]) (Wk_no _)
theorem wl_copyRow__40 : ∀ (k b : Nat) (L : Nat → Int32) (σ : MS), Wk (x_copyRow__40 k b L σ) σ.2.1 := by
  intro k
  induction k with
  | zero => intro b L σ; exact Wk_no _
  | succ k ih =>
    intro b L σ
    match b with
    | 0 =>
      refine Wk_eq (by rw [x_copyRow__40]) ?_
      exact Wk_c rfl (ih _ _ _)
    | 1 =>
      refine Wk_eq (by rw [x_copyRow__40]) ?_
      exact Wk_ite (Wk_c rfl (ih _ _ _)) (Wk_ite (Wk_ob (Wk_c rfl (wl_copied _ _ _ _)) (fun _ h15 => Wk_ite (Wk_c h15 (ih _ _ _)) (Wk_no _))) (Wk_no _))
    | 2 =>
      refine Wk_eq (by rw [x_copyRow__40]) ?_
      exact Wk_c rfl (ih _ _ _)
    | 3 =>
      refine Wk_eq (by rw [x_copyRow__40]) ?_
      exact Wk_so rfl
    | b + 4 =>
      refine Wk_eq (by rw [x_copyRow__40]) (Wk_no _)
theorem wl_copyRow__28 : ∀ (k b : Nat) (L : Nat → Int32) (σ : MS), Wk (x_copyRow__28 k b L σ) σ.2.1 := by
  intro k
  induction k with
  | zero => intro b L σ; exact Wk_no _
  | succ k ih =>
    intro b L σ
    match b with
    | 0 =>
      refine Wk_eq (by rw [x_copyRow__28]) ?_
      exact Wk_c rfl (ih _ _ _)
    | 1 =>
      refine Wk_eq (by rw [x_copyRow__28]) ?_
      exact Wk_ite (Wk_c rfl (ih _ _ _)) (Wk_ite (Wk_ob (Wk_c rfl (wl_copied _ _ _ _)) (fun _ h16 => Wk_ite (Wk_c h16 (ih _ _ _)) (Wk_no _))) (Wk_no _))
    | 2 =>
      refine Wk_eq (by rw [x_copyRow__28]) ?_
      exact Wk_c rfl (ih _ _ _)
    | 3 =>
      refine Wk_eq (by rw [x_copyRow__28]) ?_
      exact Wk_so rfl
    | b + 4 =>
      refine Wk_eq (by rw [x_copyRow__28]) (Wk_no _)
theorem wl_sweep : ∀ (k b : Nat) (L : Nat → Int32) (σ : MS), Wk (x_sweep k b L σ) σ.2.1 := by
  intro k
  induction k with
  | zero => intro b L σ; exact Wk_no _
  | succ k ih =>
    intro b L σ
    match b with
    | 0 =>
      refine Wk_eq (by rw [x_sweep]) ?_
      exact Wk_ite (Wk_c rfl (ih _ _ _)) (Wk_so rfl)
    | 1 =>
      refine Wk_eq (by rw [x_sweep]) ?_
      exact Wk_ite (Wk_c rfl (ih _ _ _)) (Wk_c rfl (ih _ _ _))
    | 2 =>
      refine Wk_eq (by rw [x_sweep]) ?_
      exact Wk_c rfl (ih _ _ _)
    | 3 =>
      refine Wk_eq (by rw [x_sweep]) ?_
      exact Wk_c rfl (ih _ _ _)
    | 4 =>
      refine Wk_eq (by rw [x_sweep]) ?_
      exact Wk_c rfl (ih _ _ _)
    | 5 =>
      refine Wk_eq (by rw [x_sweep]) ?_
      exact Wk_ob (Wk_c rfl (wl_copyRow__29 _ _ _ _)) (fun _ h17 => Wk_ob (Wk_c h17 (wl_copyState__30 _ _ _ _)) (fun _ h18 => Wk_c h18 (ih _ _ _)))
    | 6 =>
      refine Wk_eq (by rw [x_sweep]) ?_
      exact Wk_ite (Wk_c rfl (ih _ _ _)) (Wk_ob (Wk_c rfl (wl_copyState__31 _ _ _ _)) (fun _ h19 => Wk_c h19 (ih _ _ _)))
    | 7 =>
      refine Wk_eq (by rw [x_sweep]) ?_
      exact Wk_ob (Wk_c rfl (wl_copyRow__33 _ _ _ _)) (fun _ h20 => Wk_ob (Wk_c h20 (wl_copyRow__34 _ _ _ _)) (fun _ h21 => Wk_ob (Wk_c h21 (wl_copyRow__36 _ _ _ _)) (fun _ h22 => Wk_ob (Wk_c h22 (wl_copyRow__37 _ _ _ _)) (fun _ h23 => Wk_ob (Wk_c h23 (wl_copyRow__38 _ _ _ _)) (fun _ h24 => Wk_ob (Wk_c h24 (wl_copyRow__40 _ _ _ _)) (fun _ h25 => Wk_c h25 (ih _ _ _)))))))
    | 8 =>
      refine Wk_eq (by rw [x_sweep]) ?_
      exact Wk_ite (Wk_c rfl (ih _ _ _)) (Wk_ite (Wk_ite (Wk_ite (Wk_c rfl (ih _ _ _)) (Wk_ite (Wk_c rfl (ih _ _ _)) (Wk_c rfl (ih _ _ _)))) (Wk_no _)) (Wk_no _))
    | 9 =>
      refine Wk_eq (by rw [x_sweep]) ?_
      exact Wk_ob (Wk_c rfl (wl_copyRow__28 _ _ _ _)) (fun _ h26 => Wk_c h26 (ih _ _ _))
    | 10 =>
      refine Wk_eq (by rw [x_sweep]) ?_
      exact Wk_c rfl (ih _ _ _)
    | 11 =>
      refine Wk_eq (by rw [x_sweep]) ?_
      exact Wk_so rfl
    | b + 12 =>
      refine Wk_eq (by rw [x_sweep]) (Wk_no _)
theorem wl_fail : ∀ (k b : Nat) (L : Nat → Int32) (σ : MS), Wk (x_fail k b L σ) σ.2.1 := by
  intro k
  induction k with
  | zero => intro b L σ; exact Wk_no _
  | succ k ih =>
    intro b L σ
    match b with
    | 0 =>
      refine Wk_eq (by rw [x_fail]) ?_
      exact Wk_ite (Wk_c rfl (ih _ _ _)) (Wk_c rfl (ih _ _ _))
    | 1 =>
      refine Wk_eq (by rw [x_fail]) ?_
      exact Wk_c rfl (ih _ _ _)
    | 2 =>
      refine Wk_eq (by rw [x_fail]) ?_
      exact Wk_so rfl
    | b + 3 =>
      refine Wk_eq (by rw [x_fail]) (Wk_no _)
theorem wl_make : ∀ (k b : Nat) (L : Nat → Int32) (σ : MS), Wk (x_make k b L σ) σ.2.1 := by
  intro k
  induction k with
  | zero => intro b L σ; exact Wk_no _
  | succ k ih =>
    intro b L σ
    match b with
    | 0 =>
      refine Wk_eq (by rw [x_make]) ?_
      exact Wk_ite (Wk_c rfl (ih _ _ _)) (Wk_ob (Wk_c rfl (wl_fail _ _ _ _)) (fun _ h27 => Wk_so h27))
    | 1 =>
      refine Wk_eq (by rw [x_make]) ?_
      exact Wk_c rfl (ih _ _ _)
    | 2 =>
      refine Wk_eq (by rw [x_make]) ?_
      exact Wk_ite (Wk_c rfl (ih _ _ _)) (Wk_no _)
    | 3 =>
      refine Wk_eq (by rw [x_make]) ?_
      exact Wk_ite (Wk_c rfl (ih _ _ _)) (Wk_no _)
    | 4 =>
      refine Wk_eq (by rw [x_make]) ?_
      exact Wk_ite (Wk_c rfl (ih _ _ _)) (Wk_no _)
    | 5 =>
      refine Wk_eq (by rw [x_make]) ?_
      exact Wk_ite (Wk_c rfl (ih _ _ _)) (Wk_no _)
    | 6 =>
      refine Wk_eq (by rw [x_make]) ?_
      exact Wk_so rfl
    | b + 7 =>
      refine Wk_eq (by rw [x_make]) (Wk_no _)
theorem wl_wholeOf : ∀ (k b : Nat) (L : Nat → Int32) (σ : MS), Wk (x_wholeOf k b L σ) σ.2.1 := by
  intro k
  induction k with
  | zero => intro b L σ; exact Wk_no _
  | succ k ih =>
    intro b L σ
    match b with
    | 0 =>
      refine Wk_eq (by rw [x_wholeOf]) ?_
      exact Wk_ite (Wk_c rfl (ih _ _ _)) (Wk_ite (Wk_ite (Wk_c rfl (ih _ _ _)) (Wk_c rfl (ih _ _ _))) (Wk_no _))
    | 1 =>
      refine Wk_eq (by rw [x_wholeOf]) ?_
      exact Wk_ite (Wk_c rfl (ih _ _ _)) (Wk_ob (Wk_c rfl (wl_fail _ _ _ _)) (fun _ h28 => Wk_so h28))
    | 2 =>
      refine Wk_eq (by rw [x_wholeOf]) ?_
      exact Wk_ob (Wk_c rfl (wl_make _ _ _ _)) (fun _ h29 => Wk_ite (Wk_c h29 (ih _ _ _)) (Wk_so h29))
    | 3 =>
      refine Wk_eq (by rw [x_wholeOf]) ?_
      exact Wk_ite (Wk_c rfl (ih _ _ _)) (Wk_c rfl (ih _ _ _))
    | 4 =>
      refine Wk_eq (by rw [x_wholeOf]) ?_
      exact Wk_c rfl (ih _ _ _)
    | 5 =>
      refine Wk_eq (by rw [x_wholeOf]) ?_
      exact Wk_ite (Wk_c rfl (ih _ _ _)) (Wk_no _)
    | 6 =>
      refine Wk_eq (by rw [x_wholeOf]) ?_
      exact Wk_c rfl (ih _ _ _)
    | 7 =>
      refine Wk_eq (by rw [x_wholeOf]) ?_
      exact Wk_ite (Wk_c rfl (ih _ _ _)) (Wk_ite (Wk_ite (Wk_c rfl (ih _ _ _)) (Wk_no _)) (Wk_no _))
    | 8 =>
      refine Wk_eq (by rw [x_wholeOf]) ?_
      exact Wk_c rfl (ih _ _ _)
    | 9 =>
      refine Wk_eq (by rw [x_wholeOf]) ?_
      exact Wk_ite (Wk_no _) (Wk_ite (Wk_c rfl (ih _ _ _)) (Wk_no _))
    | 10 =>
      refine Wk_eq (by rw [x_wholeOf]) ?_
      exact Wk_so rfl
    | b + 11 =>
      refine Wk_eq (by rw [x_wholeOf]) (Wk_no _)
theorem wl_literal : ∀ (k b : Nat) (L : Nat → Int32) (σ : MS), Wk (x_literal k b L σ) σ.2.1 := by
  intro k
  induction k with
  | zero => intro b L σ; exact Wk_no _
  | succ k ih =>
    intro b L σ
    match b with
    | 0 =>
      refine Wk_eq (by rw [x_literal]) ?_
      exact Wk_c rfl (ih _ _ _)
    | 1 =>
      refine Wk_eq (by rw [x_literal]) ?_
      exact Wk_c rfl (ih _ _ _)
    | 2 =>
      refine Wk_eq (by rw [x_literal]) ?_
      exact Wk_ite (Wk_c rfl (ih _ _ _)) (Wk_ite (Wk_c rfl (ih _ _ _)) (Wk_no _))
    | 3 =>
      refine Wk_eq (by rw [x_literal]) ?_
      exact Wk_ite (Wk_c rfl (ih _ _ _)) (Wk_ite (Wk_ite (Wk_c rfl (ih _ _ _)) (Wk_no _)) (Wk_no _))
    | 4 =>
      refine Wk_eq (by rw [x_literal]) ?_
      exact Wk_c rfl (ih _ _ _)
    | 5 =>
      refine Wk_eq (by rw [x_literal]) ?_
      exact Wk_ite (Wk_c rfl (ih _ _ _)) (Wk_ite (Wk_c rfl (ih _ _ _)) (Wk_no _))
    | 6 =>
      refine Wk_eq (by rw [x_literal]) ?_
      exact Wk_c rfl (ih _ _ _)
    | 7 =>
      refine Wk_eq (by rw [x_literal]) ?_
      exact Wk_c rfl (ih _ _ _)
    | 8 =>
      refine Wk_eq (by rw [x_literal]) ?_
      exact Wk_ob (Wk_c rfl (wl_wholeOf _ _ _ _)) (fun _ h30 => Wk_so h30)
    | b + 9 =>
      refine Wk_eq (by rw [x_literal]) (Wk_no _)
theorem wl_size : ∀ (k b : Nat) (L : Nat → Int32) (σ : MS), Wk (x_size k b L σ) σ.2.1 := by
  intro k
  induction k with
  | zero => intro b L σ; exact Wk_no _
  | succ k ih =>
    intro b L σ
    match b with
    | 0 =>
      refine Wk_eq (by rw [x_size]) ?_
      exact Wk_ite (Wk_c rfl (ih _ _ _)) (Wk_c rfl (ih _ _ _))
    | 1 =>
      refine Wk_eq (by rw [x_size]) ?_
      exact Wk_ite (Wk_c rfl (ih _ _ _)) (Wk_no _)
    | 2 =>
      refine Wk_eq (by rw [x_size]) ?_
      exact Wk_so rfl
    | b + 3 =>
      refine Wk_eq (by rw [x_size]) (Wk_no _)
theorem wl_worked : ∀ (k b : Nat) (L : Nat → Int32) (σ : MS), Wk (x_worked k b L σ) σ.2.1 := by
  intro k
  induction k with
  | zero => intro b L σ; exact Wk_no _
  | succ k ih =>
    intro b L σ
    match b with
    | 0 =>
      refine Wk_eq (by rw [x_worked]) ?_
      exact Wk_c rfl (ih _ _ _)
    | 1 =>
      refine Wk_eq (by rw [x_worked]) ?_
      exact Wk_ite (Wk_c rfl (ih _ _ _)) (Wk_ob (Wk_c rfl (wl_fail _ _ _ _)) (fun _ h31 => Wk_c h31 (ih _ _ _)))
    | 2 =>
      refine Wk_eq (by rw [x_worked]) ?_
      exact Wk_so rfl
    | b + 3 =>
      refine Wk_eq (by rw [x_worked]) (Wk_no _)
theorem wl_answer : ∀ (k b : Nat) (L : Nat → Int32) (σ : MS), Wk (x_answer k b L σ) σ.2.1 := by
  intro k
  induction k with
  | zero => intro b L σ; exact Wk_no _
  | succ k ih =>
    intro b L σ
    match b with
    | 0 =>
      refine Wk_eq (by rw [x_answer]) ?_
      exact Wk_ite (Wk_ob (Wk_c rfl (wl_size _ _ _ _)) (fun _ h32 => Wk_ob (Wk_c h32 (wl_worked _ _ _ _)) (fun _ h33 => Wk_c h33 (ih _ _ _)))) (Wk_c rfl (ih _ _ _))
    | 1 =>
      refine Wk_eq (by rw [x_answer]) ?_
      exact Wk_so rfl
    | b + 2 =>
      refine Wk_eq (by rw [x_answer]) (Wk_no _)
theorem wl_push : ∀ (k b : Nat) (L : Nat → Int32) (σ : MS), Wk (x_push k b L σ) σ.2.1 := by
  intro k
  induction k with
  | zero => intro b L σ; exact Wk_no _
  | succ k ih =>
    intro b L σ
    match b with
    | 0 =>
      refine Wk_eq (by rw [x_push]) ?_
      exact Wk_ite (Wk_c rfl (ih _ _ _)) (Wk_no _)
    | 1 =>
      refine Wk_eq (by rw [x_push]) ?_
      exact Wk_so rfl
    | b + 2 =>
      refine Wk_eq (by rw [x_push]) (Wk_no _)
theorem wl_stringOf__12 : ∀ (k b : Nat) (L : Nat → Int32) (σ : MS), Wk (x_stringOf__12 k b L σ) σ.2.1 := by
  intro k
  induction k with
  | zero => intro b L σ; exact Wk_no _
  | succ k ih =>
    intro b L σ
    match b with
    | 0 =>
      refine Wk_eq (by rw [x_stringOf__12]) ?_
      exact Wk_ite (Wk_no _) (Wk_ite (Wk_c rfl (ih _ _ _)) (Wk_ob (Wk_c rfl (wl_fail _ _ _ _)) (fun _ h34 => Wk_so h34)))
    | 1 =>
      refine Wk_eq (by rw [x_stringOf__12]) ?_
      exact Wk_ob (Wk_c rfl (wl_make _ _ _ _)) (fun _ h35 => Wk_c h35 (ih _ _ _))
    | 2 =>
      refine Wk_eq (by rw [x_stringOf__12]) ?_
      exact Wk_ite (Wk_c rfl (ih _ _ _)) (Wk_ite (Wk_ite (Wk_ite (Wk_c rfl (ih _ _ _)) (Wk_no _)) (Wk_no _)) (Wk_c rfl (ih _ _ _)))
    | 3 =>
      refine Wk_eq (by rw [x_stringOf__12]) ?_
      exact Wk_c rfl (ih _ _ _)
    | 4 =>
      refine Wk_eq (by rw [x_stringOf__12]) ?_
      exact Wk_ite (Wk_no _) (Wk_ite (Wk_c rfl (ih _ _ _)) (Wk_no _))
    | 5 =>
      refine Wk_eq (by rw [x_stringOf__12]) ?_
      exact Wk_so rfl
    | b + 6 =>
      refine Wk_eq (by rw [x_stringOf__12]) (Wk_no _)
theorem wl_newAtom : ∀ (k b : Nat) (L : Nat → Int32) (σ : MS), Wk (x_newAtom k b L σ) σ.2.1 := by
  intro k
  induction k with
  | zero => intro b L σ; exact Wk_no _
  | succ k ih =>
    intro b L σ
    match b with
    | 0 =>
      refine Wk_eq (by rw [x_newAtom]) ?_
      exact Wk_ite (Wk_ob (Wk_c rfl (wl_fail _ _ _ _)) (fun _ h36 => Wk_so h36)) (Wk_c rfl (ih _ _ _))
    | 1 =>
      refine Wk_eq (by rw [x_newAtom]) ?_
      exact Wk_c rfl (ih _ _ _)
    | 2 =>
      refine Wk_eq (by rw [x_newAtom]) ?_
      exact Wk_ob (Wk_c rfl (wl_make _ _ _ _)) (fun _ h37 => Wk_ite (Wk_c h37 (ih _ _ _)) (Wk_so h37))
    | 3 =>
      refine Wk_eq (by rw [x_newAtom]) ?_
      exact Wk_ite (Wk_c rfl (ih _ _ _)) (Wk_no _)
    | 4 =>
      refine Wk_eq (by rw [x_newAtom]) ?_
      exact Wk_so rfl
    | b + 5 =>
      refine Wk_eq (by rw [x_newAtom]) (Wk_no _)
theorem wl_valueOf : ∀ (k b : Nat) (L : Nat → Int32) (σ : MS), Wk (x_valueOf k b L σ) σ.2.1 := by
  intro k
  induction k with
  | zero => intro b L σ; exact Wk_no _
  | succ k ih =>
    intro b L σ
    match b with
    | 0 =>
      refine Wk_eq (by rw [x_valueOf]) ?_
      exact Wk_ite (Wk_ite (Wk_ite (Wk_ite (Wk_so rfl) (Wk_no _)) (Wk_no _)) (Wk_c rfl (ih _ _ _))) (Wk_no _)
    | 1 =>
      refine Wk_eq (by rw [x_valueOf]) ?_
      exact Wk_ite (Wk_c rfl (ih _ _ _)) (Wk_ite (Wk_ite (Wk_c rfl (ih _ _ _)) (Wk_no _)) (Wk_no _))
    | 2 =>
      refine Wk_eq (by rw [x_valueOf]) ?_
      exact Wk_ite (Wk_ite (Wk_ite (Wk_c rfl (ih _ _ _)) (Wk_no _)) (Wk_no _)) (Wk_no _)
    | 3 =>
      refine Wk_eq (by rw [x_valueOf]) ?_
      exact Wk_so rfl
    | b + 4 =>
      refine Wk_eq (by rw [x_valueOf]) (Wk_no _)
theorem wl_pop : ∀ (k b : Nat) (L : Nat → Int32) (σ : MS), Wk (x_pop k b L σ) σ.2.1 := by
  intro k
  induction k with
  | zero => intro b L σ; exact Wk_no _
  | succ k ih =>
    intro b L σ
    match b with
    | 0 =>
      refine Wk_eq (by rw [x_pop]) ?_
      exact Wk_c rfl (ih _ _ _)
    | 1 =>
      refine Wk_eq (by rw [x_pop]) ?_
      exact Wk_ite (Wk_so rfl) (Wk_no _)
    | b + 2 =>
      refine Wk_eq (by rw [x_pop]) (Wk_no _)
theorem wl_kind : ∀ (k b : Nat) (L : Nat → Int32) (σ : MS), Wk (x_kind k b L σ) σ.2.1 := by
  intro k
  induction k with
  | zero => intro b L σ; exact Wk_no _
  | succ k ih =>
    intro b L σ
    match b with
    | 0 =>
      refine Wk_eq (by rw [x_kind]) ?_
      exact Wk_ite (Wk_c rfl (ih _ _ _)) (Wk_c rfl (ih _ _ _))
    | 1 =>
      refine Wk_eq (by rw [x_kind]) ?_
      exact Wk_ite (Wk_c rfl (ih _ _ _)) (Wk_c rfl (ih _ _ _))
    | 2 =>
      refine Wk_eq (by rw [x_kind]) ?_
      exact Wk_ite (Wk_c rfl (ih _ _ _)) (Wk_no _)
    | 3 =>
      refine Wk_eq (by rw [x_kind]) ?_
      exact Wk_so rfl
    | b + 4 =>
      refine Wk_eq (by rw [x_kind]) (Wk_no _)
theorem wl_wrongKind : ∀ (k b : Nat) (L : Nat → Int32) (σ : MS), Wk (x_wrongKind k b L σ) σ.2.1 := by
  intro k
  induction k with
  | zero => intro b L σ; exact Wk_no _
  | succ k ih =>
    intro b L σ
    match b with
    | 0 =>
      refine Wk_eq (by rw [x_wrongKind]) ?_
      exact Wk_ob (Wk_c rfl (wl_fail _ _ _ _)) (fun _ h38 => Wk_so h38)
    | b + 1 =>
      refine Wk_eq (by rw [x_wrongKind]) (Wk_no _)
theorem wl_signOf : ∀ (k b : Nat) (L : Nat → Int32) (σ : MS), Wk (x_signOf k b L σ) σ.2.1 := by
  intro k
  induction k with
  | zero => intro b L σ; exact Wk_no _
  | succ k ih =>
    intro b L σ
    match b with
    | 0 =>
      refine Wk_eq (by rw [x_signOf]) ?_
      exact Wk_ite (Wk_so rfl) (Wk_no _)
    | b + 1 =>
      refine Wk_eq (by rw [x_signOf]) (Wk_no _)
theorem wl_loadA : ∀ (k b : Nat) (L : Nat → Int32) (σ : MS), Wk (x_loadA k b L σ) σ.2.1 := by
  intro k
  induction k with
  | zero => intro b L σ; exact Wk_no _
  | succ k ih =>
    intro b L σ
    match b with
    | 0 =>
      refine Wk_eq (by rw [x_loadA]) ?_
      exact Wk_ite (Wk_c rfl (ih _ _ _)) (Wk_no _)
    | 1 =>
      refine Wk_eq (by rw [x_loadA]) ?_
      exact Wk_c rfl (ih _ _ _)
    | 2 =>
      refine Wk_eq (by rw [x_loadA]) ?_
      exact Wk_ite (Wk_c rfl (ih _ _ _)) (Wk_ite (Wk_ite (Wk_c rfl (ih _ _ _)) (Wk_no _)) (Wk_no _))
    | 3 =>
      refine Wk_eq (by rw [x_loadA]) ?_
      exact Wk_c rfl (ih _ _ _)
    | 4 =>
      refine Wk_eq (by rw [x_loadA]) ?_
      exact Wk_so rfl
    | b + 5 =>
      refine Wk_eq (by rw [x_loadA]) (Wk_no _)
theorem wl_other : ∀ (k b : Nat) (L : Nat → Int32) (σ : MS), Wk (x_other k b L σ) σ.2.1 := by
  intro k
  induction k with
  | zero => intro b L σ; exact Wk_no _
  | succ k ih =>
    intro b L σ
    match b with
    | 0 =>
      refine Wk_eq (by rw [x_other]) ?_
      exact Wk_ob (Wk_c rfl (wl_loadA _ _ _ _)) (fun _ h39 => Wk_c h39 (ih _ _ _))
    | 1 =>
      refine Wk_eq (by rw [x_other]) ?_
      exact Wk_c rfl (ih _ _ _)
    | 2 =>
      refine Wk_eq (by rw [x_other]) ?_
      exact Wk_ite (Wk_c rfl (ih _ _ _)) (Wk_ite (Wk_ite (Wk_c rfl (ih _ _ _)) (Wk_no _)) (Wk_no _))
    | 3 =>
      refine Wk_eq (by rw [x_other]) ?_
      exact Wk_c rfl (ih _ _ _)
    | 4 =>
      refine Wk_eq (by rw [x_other]) ?_
      exact Wk_ob (Wk_c rfl (wl_signOf _ _ _ _)) (fun _ h40 => Wk_ob (Wk_c h40 (wl_wholeOf _ _ _ _)) (fun _ h41 => Wk_so h41))
    | b + 5 =>
      refine Wk_eq (by rw [x_other]) (Wk_no _)
theorem wl_isMap : ∀ (k b : Nat) (L : Nat → Int32) (σ : MS), Wk (x_isMap k b L σ) σ.2.1 := by
  intro k
  induction k with
  | zero => intro b L σ; exact Wk_no _
  | succ k ih =>
    intro b L σ
    match b with
    | 0 =>
      refine Wk_eq (by rw [x_isMap]) ?_
      exact Wk_ob (Wk_c rfl (wl_kind _ _ _ _)) (fun _ h42 => Wk_ite (Wk_c h42 (ih _ _ _)) (Wk_c h42 (ih _ _ _)))
    | 1 =>
      refine Wk_eq (by rw [x_isMap]) ?_
      exact Wk_c rfl (ih _ _ _)
    | 2 =>
      refine Wk_eq (by rw [x_isMap]) ?_
      exact Wk_c rfl (ih _ _ _)
    | 3 =>
      refine Wk_eq (by rw [x_isMap]) ?_
      exact Wk_ite (Wk_c rfl (ih _ _ _)) (Wk_ite (Wk_ite (Wk_c rfl (ih _ _ _)) (Wk_ite (Wk_ob (Wk_c rfl (wl_kind _ _ _ _)) (fun _ h43 => Wk_ite (Wk_ite (Wk_ite (Wk_c h43 (ih _ _ _)) (Wk_c h43 (ih _ _ _))) (Wk_no _)) (Wk_c h43 (ih _ _ _)))) (Wk_no _))) (Wk_no _))
    | 4 =>
      refine Wk_eq (by rw [x_isMap]) ?_
      exact Wk_c rfl (ih _ _ _)
    | 5 =>
      refine Wk_eq (by rw [x_isMap]) ?_
      exact Wk_c rfl (ih _ _ _)
    | 6 =>
      refine Wk_eq (by rw [x_isMap]) ?_
      exact Wk_ite (Wk_so rfl) (Wk_no _)
    | b + 7 =>
      refine Wk_eq (by rw [x_isMap]) (Wk_no _)
theorem wl_rank : ∀ (k b : Nat) (L : Nat → Int32) (σ : MS), Wk (x_rank k b L σ) σ.2.1 := by
  intro k
  induction k with
  | zero => intro b L σ; exact Wk_no _
  | succ k ih =>
    intro b L σ
    match b with
    | 0 =>
      refine Wk_eq (by rw [x_rank]) ?_
      exact Wk_ite (Wk_c rfl (ih _ _ _)) (Wk_c rfl (ih _ _ _))
    | 1 =>
      refine Wk_eq (by rw [x_rank]) ?_
      exact Wk_ite (Wk_c rfl (ih _ _ _)) (Wk_no _)
    | 2 =>
      refine Wk_eq (by rw [x_rank]) ?_
      exact Wk_so rfl
    | b + 3 =>
      refine Wk_eq (by rw [x_rank]) (Wk_no _)
theorem wl_compareWholes : ∀ (k b : Nat) (L : Nat → Int32) (σ : MS), Wk (x_compareWholes k b L σ) σ.2.1 := by
  intro k
  induction k with
  | zero => intro b L σ; exact Wk_no _
  | succ k ih =>
    intro b L σ
    match b with
    | 0 =>
      refine Wk_eq (by rw [x_compareWholes]) ?_
      exact Wk_ob (Wk_c rfl (wl_signOf _ _ _ _)) (fun _ h44 => Wk_ob (Wk_c h44 (wl_signOf _ _ _ _)) (fun _ h45 => Wk_ite (Wk_c h45 (ih _ _ _)) (Wk_ob (Wk_c h45 (wl_signOf _ _ _ _)) (fun _ h46 => Wk_ob (Wk_c h46 (wl_signOf _ _ _ _)) (fun _ h47 => Wk_so h47)))))
    | 1 =>
      refine Wk_eq (by rw [x_compareWholes]) ?_
      exact Wk_ite (Wk_ite (Wk_c rfl (ih _ _ _)) (Wk_no _)) (Wk_no _)
    | 2 =>
      refine Wk_eq (by rw [x_compareWholes]) ?_
      exact Wk_ite (Wk_c rfl (ih _ _ _)) (Wk_ite (Wk_ite (Wk_ite (Wk_c rfl (ih _ _ _)) (Wk_no _)) (Wk_no _)) (Wk_c rfl (ih _ _ _)))
    | 3 =>
      refine Wk_eq (by rw [x_compareWholes]) ?_
      exact Wk_ob (Wk_c rfl (wl_signOf _ _ _ _)) (fun _ h48 => Wk_ite (Wk_c h48 (ih _ _ _)) (Wk_c h48 (ih _ _ _)))
    | 4 =>
      refine Wk_eq (by rw [x_compareWholes]) ?_
      exact Wk_c rfl (ih _ _ _)
    | 5 =>
      refine Wk_eq (by rw [x_compareWholes]) ?_
      exact Wk_so rfl
    | b + 6 =>
      refine Wk_eq (by rw [x_compareWholes]) (Wk_no _)
theorem wl_s_compare {X : Nat → Nat → Nat → (Nat → Int32) → MS → Option (Int32 × MS)} (hX : ∀ e m b L (σ : MS), Wk (X e m b L σ) σ.2.1) (k d b : Nat) (L : Nat → Int32) (σ : MS) : Wk (s_compare X k d b L σ) σ.2.1 := by
  match b with
  | 0 => exact Wk_ite (Wk_so rfl) (Wk_c rfl (hX _ _ _ _ _))
  | 1 => exact Wk_ob (Wk_c rfl (wl_rank _ _ _ _)) (fun _ h49 => Wk_ob (Wk_c h49 (wl_rank _ _ _ _)) (fun _ h50 => Wk_ite (Wk_c h50 (hX _ _ _ _ _)) (Wk_so h50)))
  | 2 => exact Wk_ite (Wk_ite (Wk_ob (Wk_c rfl (wl_compareWholes _ _ _ _)) (fun _ h51 => Wk_so h51)) (Wk_c rfl (hX _ _ _ _ _))) (Wk_no _)
  | 3 => exact Wk_ite (Wk_ite (Wk_c rfl (hX _ _ _ _ _)) (Wk_no _)) (Wk_no _)
  | 4 => exact Wk_ite (Wk_c rfl (hX _ _ _ _ _)) (Wk_ite (Wk_c rfl (hX _ _ _ _ _)) (Wk_ite (Wk_c rfl (hX _ _ _ _ _)) (Wk_ite (Wk_c rfl (hX _ _ _ _ _)) (Wk_c rfl (hX _ _ _ _ _)))))
  | 5 => exact Wk_ite (Wk_ite (Wk_od (fun _ => Wk_ob (Wk_c rfl (hX _ _ _ _ _)) (fun _ h52 => Wk_c h52 (hX _ _ _ _ _)))) (Wk_no _)) (Wk_no _)
  | 6 => exact Wk_ite (Wk_ite (Wk_c rfl (hX _ _ _ _ _)) (Wk_no _)) (Wk_no _)
  | 7 => exact Wk_ite (Wk_c rfl (hX _ _ _ _ _)) (Wk_so rfl)
  | 8 => exact Wk_c rfl (hX _ _ _ _ _)
  | 9 => exact Wk_so rfl
  | b + 10 => exact Wk_no _
theorem wl_GC : ∀ (k d m b : Nat) (L : Nat → Int32) (σ : MS), Wk (x_GC k d m b L σ) σ.2.1 := by
  intro k
  induction k with
  | zero => intro d m b L σ; exact Wk_no _
  | succ k ih =>
    intro d m b L σ
    match m with
    | 0 => exact wl_s_compare ih k d b L σ
    | m + 1 => exact Wk_no _
theorem wl_compare (k b : Nat) (L : Nat → Int32) (σ : MS) : Wk (x_compare k b L σ) σ.2.1 := wl_GC k 40 0 b L σ
theorem wl_merge : ∀ (k b : Nat) (L : Nat → Int32) (σ : MS), Wk (x_merge k b L σ) σ.2.1 := by
  intro k
  induction k with
  | zero => intro b L σ; exact Wk_no _
  | succ k ih =>
    intro b L σ
    match b with
    | 0 =>
      refine Wk_eq (by rw [x_merge]) ?_
      exact Wk_c rfl (ih _ _ _)
    | 1 =>
      refine Wk_eq (by rw [x_merge]) ?_
      exact Wk_ite (Wk_c rfl (ih _ _ _)) (Wk_ite (Wk_c rfl (ih _ _ _)) (Wk_ite (Wk_c rfl (ih _ _ _)) (Wk_ite (Wk_ite (Wk_ob (Wk_c rfl (wl_compare _ _ _ _)) (fun _ h53 => Wk_ite (Wk_c h53 (ih _ _ _)) (Wk_c h53 (ih _ _ _)))) (Wk_no _)) (Wk_no _))))
    | 2 =>
      refine Wk_eq (by rw [x_merge]) ?_
      exact Wk_c rfl (ih _ _ _)
    | 3 =>
      refine Wk_eq (by rw [x_merge]) ?_
      exact Wk_c rfl (ih _ _ _)
    | 4 =>
      refine Wk_eq (by rw [x_merge]) ?_
      exact Wk_ite (Wk_c rfl (ih _ _ _)) (Wk_ite (Wk_c rfl (ih _ _ _)) (Wk_no _))
    | 5 =>
      refine Wk_eq (by rw [x_merge]) ?_
      exact Wk_ite (Wk_c rfl (ih _ _ _)) (Wk_no _)
    | 6 =>
      refine Wk_eq (by rw [x_merge]) ?_
      exact Wk_ite (Wk_c rfl (ih _ _ _)) (Wk_no _)
    | 7 =>
      refine Wk_eq (by rw [x_merge]) ?_
      exact Wk_ite (Wk_c rfl (ih _ _ _)) (Wk_c rfl (ih _ _ _))
    | 8 =>
      refine Wk_eq (by rw [x_merge]) ?_
      exact Wk_c rfl (ih _ _ _)
    | 9 =>
      refine Wk_eq (by rw [x_merge]) ?_
      exact Wk_ite (Wk_c rfl (ih _ _ _)) (Wk_c rfl (ih _ _ _))
    | 10 =>
      refine Wk_eq (by rw [x_merge]) ?_
      exact Wk_c rfl (ih _ _ _)
    | 11 =>
      refine Wk_eq (by rw [x_merge]) ?_
      exact Wk_c rfl (ih _ _ _)
    | 12 =>
      refine Wk_eq (by rw [x_merge]) ?_
      exact Wk_so rfl
    | b + 13 =>
      refine Wk_eq (by rw [x_merge]) (Wk_no _)
theorem wl_distinct : ∀ (k b : Nat) (L : Nat → Int32) (σ : MS), Wk (x_distinct k b L σ) σ.2.1 := by
  intro k
  induction k with
  | zero => intro b L σ; exact Wk_no _
  | succ k ih =>
    intro b L σ
    match b with
    | 0 =>
      refine Wk_eq (by rw [x_distinct]) ?_
      exact Wk_c rfl (ih _ _ _)
    | 1 =>
      refine Wk_eq (by rw [x_distinct]) ?_
      exact Wk_ite (Wk_c rfl (ih _ _ _)) (Wk_c rfl (ih _ _ _))
    | 2 =>
      refine Wk_eq (by rw [x_distinct]) ?_
      exact Wk_ite (Wk_c rfl (ih _ _ _)) (Wk_ite (Wk_c rfl (ih _ _ _)) (Wk_c rfl (ih _ _ _)))
    | 3 =>
      refine Wk_eq (by rw [x_distinct]) ?_
      exact Wk_c rfl (ih _ _ _)
    | 4 =>
      refine Wk_eq (by rw [x_distinct]) ?_
      exact Wk_ite (Wk_c rfl (ih _ _ _)) (Wk_c rfl (ih _ _ _))
    | 5 =>
      refine Wk_eq (by rw [x_distinct]) ?_
      exact Wk_c rfl (ih _ _ _)
    | 6 =>
      refine Wk_eq (by rw [x_distinct]) ?_
      exact Wk_ob (Wk_c rfl (wl_merge _ _ _ _)) (fun _ h54 => Wk_c h54 (ih _ _ _))
    | 7 =>
      refine Wk_eq (by rw [x_distinct]) ?_
      exact Wk_c rfl (ih _ _ _)
    | 8 =>
      refine Wk_eq (by rw [x_distinct]) ?_
      exact Wk_ite (Wk_c rfl (ih _ _ _)) (Wk_ite (Wk_ite (Wk_c rfl (ih _ _ _)) (Wk_no _)) (Wk_no _))
    | 9 =>
      refine Wk_eq (by rw [x_distinct]) ?_
      exact Wk_c rfl (ih _ _ _)
    | 10 =>
      refine Wk_eq (by rw [x_distinct]) ?_
      exact Wk_c rfl (ih _ _ _)
    | 11 =>
      refine Wk_eq (by rw [x_distinct]) ?_
      exact Wk_c rfl (ih _ _ _)
    | 12 =>
      refine Wk_eq (by rw [x_distinct]) ?_
      exact Wk_ite (Wk_c rfl (ih _ _ _)) (Wk_ite (Wk_c rfl (ih _ _ _)) (Wk_ite (Wk_ite (Wk_ob (Wk_c rfl (wl_compare _ _ _ _)) (fun _ h55 => Wk_ite (Wk_c h55 (ih _ _ _)) (Wk_c h55 (ih _ _ _)))) (Wk_no _)) (Wk_no _)))
    | 13 =>
      refine Wk_eq (by rw [x_distinct]) ?_
      exact Wk_ite (Wk_ite (Wk_c rfl (ih _ _ _)) (Wk_no _)) (Wk_no _)
    | 14 =>
      refine Wk_eq (by rw [x_distinct]) ?_
      exact Wk_c rfl (ih _ _ _)
    | 15 =>
      refine Wk_eq (by rw [x_distinct]) ?_
      exact Wk_c rfl (ih _ _ _)
    | 16 =>
      refine Wk_eq (by rw [x_distinct]) ?_
      exact Wk_so rfl
    | b + 17 =>
      refine Wk_eq (by rw [x_distinct]) (Wk_no _)
theorem wl_height : ∀ (k b : Nat) (L : Nat → Int32) (σ : MS), Wk (x_height k b L σ) σ.2.1 := by
  intro k
  induction k with
  | zero => intro b L σ; exact Wk_no _
  | succ k ih =>
    intro b L σ
    match b with
    | 0 =>
      refine Wk_eq (by rw [x_height]) ?_
      exact Wk_ite (Wk_c rfl (ih _ _ _)) (Wk_c rfl (ih _ _ _))
    | 1 =>
      refine Wk_eq (by rw [x_height]) ?_
      exact Wk_ite (Wk_c rfl (ih _ _ _)) (Wk_no _)
    | 2 =>
      refine Wk_eq (by rw [x_height]) ?_
      exact Wk_so rfl
    | b + 3 =>
      refine Wk_eq (by rw [x_height]) (Wk_no _)
theorem wl_checked : ∀ (k b : Nat) (L : Nat → Int32) (σ : MS), Wk (x_checked k b L σ) σ.2.1 := by
  intro k
  induction k with
  | zero => intro b L σ; exact Wk_no _
  | succ k ih =>
    intro b L σ
    match b with
    | 0 =>
      refine Wk_eq (by rw [x_checked]) ?_
      exact Wk_ite (Wk_ite (Wk_ite (Wk_c rfl (ih _ _ _)) (Wk_ite (Wk_ite (Wk_c rfl (ih _ _ _)) (Wk_c rfl (ih _ _ _))) (Wk_no _))) (Wk_no _)) (Wk_c rfl (ih _ _ _))
    | 1 =>
      refine Wk_eq (by rw [x_checked]) ?_
      exact Wk_ob (Wk_c rfl (wl_fail _ _ _ _)) (fun _ h56 => Wk_c h56 (ih _ _ _))
    | 2 =>
      refine Wk_eq (by rw [x_checked]) ?_
      exact Wk_ite (Wk_c rfl (ih _ _ _)) (Wk_c rfl (ih _ _ _))
    | 3 =>
      refine Wk_eq (by rw [x_checked]) ?_
      exact Wk_c rfl (ih _ _ _)
    | 4 =>
      refine Wk_eq (by rw [x_checked]) ?_
      exact Wk_so rfl
    | b + 5 =>
      refine Wk_eq (by rw [x_checked]) (Wk_no _)
theorem wl_measured : ∀ (k b : Nat) (L : Nat → Int32) (σ : MS), Wk (x_measured k b L σ) σ.2.1 := by
  intro k
  induction k with
  | zero => intro b L σ; exact Wk_no _
  | succ k ih =>
    intro b L σ
    match b with
    | 0 =>
      refine Wk_eq (by rw [x_measured]) ?_
      exact Wk_ite (Wk_c rfl (ih _ _ _)) (Wk_no _)
    | 1 =>
      refine Wk_eq (by rw [x_measured]) ?_
      exact Wk_ite (Wk_c rfl (ih _ _ _)) (Wk_ite (Wk_ob (Wk_c rfl (wl_size _ _ _ _)) (fun _ h57 => Wk_ob (Wk_c h57 (wl_height _ _ _ _)) (fun _ h58 => Wk_ite (Wk_c h58 (ih _ _ _)) (Wk_ob (Wk_c h58 (wl_height _ _ _ _)) (fun _ h59 => Wk_c h59 (ih _ _ _)))))) (Wk_no _))
    | 2 =>
      refine Wk_eq (by rw [x_measured]) ?_
      exact Wk_c rfl (ih _ _ _)
    | 3 =>
      refine Wk_eq (by rw [x_measured]) ?_
      exact Wk_c rfl (ih _ _ _)
    | 4 =>
      refine Wk_eq (by rw [x_measured]) ?_
      exact Wk_ite (Wk_c rfl (ih _ _ _)) (Wk_no _)
    | 5 =>
      refine Wk_eq (by rw [x_measured]) ?_
      exact Wk_ite (Wk_c rfl (ih _ _ _)) (Wk_no _)
    | 6 =>
      refine Wk_eq (by rw [x_measured]) ?_
      exact Wk_ob (Wk_c rfl (wl_checked _ _ _ _)) (fun _ h60 => Wk_so h60)
    | b + 7 =>
      refine Wk_eq (by rw [x_measured]) (Wk_no _)
theorem wl_setOf : ∀ (k b : Nat) (L : Nat → Int32) (σ : MS), Wk (x_setOf k b L σ) σ.2.1 := by
  intro k
  induction k with
  | zero => intro b L σ; exact Wk_no _
  | succ k ih =>
    intro b L σ
    match b with
    | 0 =>
      refine Wk_eq (by rw [x_setOf]) ?_
      exact Wk_ob (Wk_c rfl (wl_distinct _ _ _ _)) (fun _ h61 => Wk_c h61 (ih _ _ _))
    | 1 =>
      refine Wk_eq (by rw [x_setOf]) ?_
      exact Wk_ob (Wk_c rfl (wl_make _ _ _ _)) (fun _ h62 => Wk_ite (Wk_c h62 (ih _ _ _)) (Wk_so h62))
    | 2 =>
      refine Wk_eq (by rw [x_setOf]) ?_
      exact Wk_c rfl (ih _ _ _)
    | 3 =>
      refine Wk_eq (by rw [x_setOf]) ?_
      exact Wk_ite (Wk_c rfl (ih _ _ _)) (Wk_ite (Wk_ite (Wk_c rfl (ih _ _ _)) (Wk_no _)) (Wk_no _))
    | 4 =>
      refine Wk_eq (by rw [x_setOf]) ?_
      exact Wk_c rfl (ih _ _ _)
    | 5 =>
      refine Wk_eq (by rw [x_setOf]) ?_
      exact Wk_ob (Wk_c rfl (wl_measured _ _ _ _)) (fun _ h63 => Wk_so h63)
    | b + 6 =>
      refine Wk_eq (by rw [x_setOf]) (Wk_no _)
theorem wl_side : ∀ (k b : Nat) (L : Nat → Int32) (σ : MS), Wk (x_side k b L σ) σ.2.1 := by
  intro k
  induction k with
  | zero => intro b L σ; exact Wk_no _
  | succ k ih =>
    intro b L σ
    match b with
    | 0 =>
      refine Wk_eq (by rw [x_side]) ?_
      exact Wk_ob (Wk_c rfl (wl_isMap _ _ _ _)) (fun _ h64 => Wk_ite (Wk_ob (Wk_c h64 (wl_wrongKind _ _ _ _)) (fun _ h65 => Wk_so h65)) (Wk_c h64 (ih _ _ _)))
    | 1 =>
      refine Wk_eq (by rw [x_side]) ?_
      exact Wk_c rfl (ih _ _ _)
    | 2 =>
      refine Wk_eq (by rw [x_side]) ?_
      exact Wk_ite (Wk_ite (Wk_c rfl (ih _ _ _)) (Wk_ite (Wk_ite (Wk_ob (Wk_c rfl (wl_push _ _ _ _)) (fun _ h66 => Wk_c h66 (ih _ _ _))) (Wk_no _)) (Wk_no _))) (Wk_no _)
    | 3 =>
      refine Wk_eq (by rw [x_side]) ?_
      exact Wk_c rfl (ih _ _ _)
    | 4 =>
      refine Wk_eq (by rw [x_side]) ?_
      exact Wk_ite (Wk_c rfl (ih _ _ _)) (Wk_ite (Wk_ite (Wk_ite (Wk_c rfl (ih _ _ _)) (Wk_c rfl (ih _ _ _))) (Wk_no _)) (Wk_c rfl (ih _ _ _)))
    | 5 =>
      refine Wk_eq (by rw [x_side]) ?_
      exact Wk_c rfl (ih _ _ _)
    | 6 =>
      refine Wk_eq (by rw [x_side]) ?_
      exact Wk_c rfl (ih _ _ _)
    | 7 =>
      refine Wk_eq (by rw [x_side]) ?_
      exact Wk_c rfl (ih _ _ _)
    | 8 =>
      refine Wk_eq (by rw [x_side]) ?_
      exact Wk_ite (Wk_c rfl (ih _ _ _)) (Wk_c rfl (ih _ _ _))
    | 9 =>
      refine Wk_eq (by rw [x_side]) ?_
      exact Wk_ob (Wk_c rfl (wl_fail _ _ _ _)) (fun _ h67 => Wk_so h67)
    | 10 =>
      refine Wk_eq (by rw [x_side]) ?_
      exact Wk_ob (Wk_c rfl (wl_setOf _ _ _ _)) (fun _ h68 => Wk_so h68)
    | b + 11 =>
      refine Wk_eq (by rw [x_side]) (Wk_no _)
theorem wl_powerSet : ∀ (k b : Nat) (L : Nat → Int32) (σ : MS), Wk (x_powerSet k b L σ) σ.2.1 := by
  intro k
  induction k with
  | zero => intro b L σ; exact Wk_no _
  | succ k ih =>
    intro b L σ
    match b with
    | 0 =>
      refine Wk_eq (by rw [x_powerSet]) ?_
      exact Wk_ob (Wk_c rfl (wl_kind _ _ _ _)) (fun _ h69 => Wk_ite (Wk_c h69 (ih _ _ _)) (Wk_ob (Wk_c h69 (wl_wrongKind _ _ _ _)) (fun _ h70 => Wk_so h70)))
    | 1 =>
      refine Wk_eq (by rw [x_powerSet]) ?_
      exact Wk_ite (Wk_ite (Wk_c rfl (ih _ _ _)) (Wk_ob (Wk_c rfl (wl_fail _ _ _ _)) (fun _ h71 => Wk_so h71))) (Wk_no _)
    | 2 =>
      refine Wk_eq (by rw [x_powerSet]) ?_
      exact Wk_c rfl (ih _ _ _)
    | 3 =>
      refine Wk_eq (by rw [x_powerSet]) ?_
      exact Wk_ite (Wk_c rfl (ih _ _ _)) (Wk_ite (Wk_c rfl (ih _ _ _)) (Wk_c rfl (ih _ _ _)))
    | 4 =>
      refine Wk_eq (by rw [x_powerSet]) ?_
      exact Wk_ite (Wk_c rfl (ih _ _ _)) (Wk_ite (Wk_ite (Wk_ob (Wk_c rfl (wl_push _ _ _ _)) (fun _ h72 => Wk_c h72 (ih _ _ _))) (Wk_no _)) (Wk_c rfl (ih _ _ _)))
    | 5 =>
      refine Wk_eq (by rw [x_powerSet]) ?_
      exact Wk_c rfl (ih _ _ _)
    | 6 =>
      refine Wk_eq (by rw [x_powerSet]) ?_
      exact Wk_ob (Wk_c rfl (wl_setOf _ _ _ _)) (fun _ h73 => Wk_ob (Wk_c h73 (wl_push _ _ _ _)) (fun _ h74 => Wk_c h74 (ih _ _ _)))
    | 7 =>
      refine Wk_eq (by rw [x_powerSet]) ?_
      exact Wk_ite (Wk_ob (Wk_c rfl (wl_setOf _ _ _ _)) (fun _ h75 => Wk_c h75 (ih _ _ _))) (Wk_c rfl (ih _ _ _))
    | 8 =>
      refine Wk_eq (by rw [x_powerSet]) ?_
      exact Wk_c rfl (ih _ _ _)
    | 9 =>
      refine Wk_eq (by rw [x_powerSet]) ?_
      exact Wk_so rfl
    | b + 10 =>
      refine Wk_eq (by rw [x_powerSet]) (Wk_no _)
theorem wl_put : ∀ (k b : Nat) (L : Nat → Int32) (σ : MS), Wk (x_put k b L σ) σ.2.1 := by
  intro k
  induction k with
  | zero => intro b L σ; exact Wk_no _
  | succ k ih =>
    intro b L σ
    match b with
    | 0 =>
      refine Wk_eq (by rw [x_put]) ?_
      exact Wk_ite (Wk_c rfl (ih _ _ _)) (Wk_no _)
    | 1 =>
      refine Wk_eq (by rw [x_put]) ?_
      exact Wk_so rfl
    | b + 2 =>
      refine Wk_eq (by rw [x_put]) (Wk_no _)
theorem wl_putWord : ∀ (k b : Nat) (L : Nat → Int32) (σ : MS), Wk (x_putWord k b L σ) σ.2.1 := by
  intro k
  induction k with
  | zero => intro b L σ; exact Wk_no _
  | succ k ih =>
    intro b L σ
    match b with
    | 0 =>
      refine Wk_eq (by rw [x_putWord]) ?_
      exact Wk_c rfl (ih _ _ _)
    | 1 =>
      refine Wk_eq (by rw [x_putWord]) ?_
      exact Wk_ite (Wk_c rfl (ih _ _ _)) (Wk_ite (Wk_ite (Wk_c rfl (ih _ _ _)) (Wk_c rfl (ih _ _ _))) (Wk_no _))
    | 2 =>
      refine Wk_eq (by rw [x_putWord]) ?_
      exact Wk_c rfl (ih _ _ _)
    | 3 =>
      refine Wk_eq (by rw [x_putWord]) ?_
      exact Wk_c rfl (ih _ _ _)
    | 4 =>
      refine Wk_eq (by rw [x_putWord]) ?_
      exact Wk_ite (Wk_ite (Wk_c rfl (ih _ _ _)) (Wk_ite (Wk_ob (Wk_c rfl (wl_put _ _ _ _)) (fun _ h76 => Wk_c h76 (ih _ _ _))) (Wk_no _))) (Wk_no _)
    | 5 =>
      refine Wk_eq (by rw [x_putWord]) ?_
      exact Wk_so rfl
    | b + 6 =>
      refine Wk_eq (by rw [x_putWord]) (Wk_no _)
theorem wl_stringOf__48 : ∀ (k b : Nat) (L : Nat → Int32) (σ : MS), Wk (x_stringOf__48 k b L σ) σ.2.1 := by
  intro k
  induction k with
  | zero => intro b L σ; exact Wk_no _
  | succ k ih =>
    intro b L σ
    match b with
    | 0 =>
      refine Wk_eq (by rw [x_stringOf__48]) ?_
      exact Wk_ite (Wk_no _) (Wk_ite (Wk_c rfl (ih _ _ _)) (Wk_ob (Wk_c rfl (wl_fail _ _ _ _)) (fun _ h77 => Wk_so h77)))
    | 1 =>
      refine Wk_eq (by rw [x_stringOf__48]) ?_
      exact Wk_ob (Wk_c rfl (wl_make _ _ _ _)) (fun _ h78 => Wk_c h78 (ih _ _ _))
    | 2 =>
      refine Wk_eq (by rw [x_stringOf__48]) ?_
      exact Wk_ite (Wk_c rfl (ih _ _ _)) (Wk_ite (Wk_ite (Wk_ite (Wk_c rfl (ih _ _ _)) (Wk_no _)) (Wk_no _)) (Wk_c rfl (ih _ _ _)))
    | 3 =>
      refine Wk_eq (by rw [x_stringOf__48]) ?_
      exact Wk_c rfl (ih _ _ _)
    | 4 =>
      refine Wk_eq (by rw [x_stringOf__48]) ?_
      exact Wk_ite (Wk_no _) (Wk_ite (Wk_c rfl (ih _ _ _)) (Wk_no _))
    | 5 =>
      refine Wk_eq (by rw [x_stringOf__48]) ?_
      exact Wk_so rfl
    | b + 6 =>
      refine Wk_eq (by rw [x_stringOf__48]) (Wk_no _)
theorem wl_typeOf : ∀ (k b : Nat) (L : Nat → Int32) (σ : MS), Wk (x_typeOf k b L σ) σ.2.1 := by
  intro k
  induction k with
  | zero => intro b L σ; exact Wk_no _
  | succ k ih =>
    intro b L σ
    match b with
    | 0 =>
      refine Wk_eq (by rw [x_typeOf]) ?_
      exact Wk_c rfl (ih _ _ _)
    | 1 =>
      refine Wk_eq (by rw [x_typeOf]) ?_
      exact Wk_ob (Wk_c rfl (wl_kind _ _ _ _)) (fun _ h79 => Wk_ob (Wk_c h79 (wl_putWord _ _ _ _)) (fun _ h80 => Wk_ob (Wk_c h80 (wl_stringOf__48 _ _ _ _)) (fun _ h81 => Wk_so h81)))
    | b + 2 =>
      refine Wk_eq (by rw [x_typeOf]) (Wk_no _)
theorem wl_putTruth : ∀ (k b : Nat) (L : Nat → Int32) (σ : MS), Wk (x_putTruth k b L σ) σ.2.1 := by
  intro k
  induction k with
  | zero => intro b L σ; exact Wk_no _
  | succ k ih =>
    intro b L σ
    match b with
    | 0 =>
      refine Wk_eq (by rw [x_putTruth]) ?_
      exact Wk_ite (Wk_c rfl (ih _ _ _)) (Wk_c rfl (ih _ _ _))
    | 1 =>
      refine Wk_eq (by rw [x_putTruth]) ?_
      exact Wk_c rfl (ih _ _ _)
    | 2 =>
      refine Wk_eq (by rw [x_putTruth]) ?_
      exact Wk_ob (Wk_c rfl (wl_put _ _ _ _)) (fun _ h82 => Wk_ite (Wk_c h82 (ih _ _ _)) (Wk_c h82 (ih _ _ _)))
    | 3 =>
      refine Wk_eq (by rw [x_putTruth]) ?_
      exact Wk_c rfl (ih _ _ _)
    | 4 =>
      refine Wk_eq (by rw [x_putTruth]) ?_
      exact Wk_ob (Wk_c rfl (wl_put _ _ _ _)) (fun _ h83 => Wk_ite (Wk_c h83 (ih _ _ _)) (Wk_c h83 (ih _ _ _)))
    | 5 =>
      refine Wk_eq (by rw [x_putTruth]) ?_
      exact Wk_c rfl (ih _ _ _)
    | 6 =>
      refine Wk_eq (by rw [x_putTruth]) ?_
      exact Wk_ob (Wk_c rfl (wl_put _ _ _ _)) (fun _ h84 => Wk_ite (Wk_c h84 (ih _ _ _)) (Wk_c h84 (ih _ _ _)))
    | 7 =>
      refine Wk_eq (by rw [x_putTruth]) ?_
      exact Wk_c rfl (ih _ _ _)
    | 8 =>
      refine Wk_eq (by rw [x_putTruth]) ?_
      exact Wk_ob (Wk_c rfl (wl_put _ _ _ _)) (fun _ h85 => Wk_ite (Wk_ob (Wk_c h85 (wl_put _ _ _ _)) (fun _ h86 => Wk_c h86 (ih _ _ _))) (Wk_c h85 (ih _ _ _)))
    | 9 =>
      refine Wk_eq (by rw [x_putTruth]) ?_
      exact Wk_so rfl
    | b + 10 =>
      refine Wk_eq (by rw [x_putTruth]) (Wk_no _)
theorem wl_putWhole : ∀ (k b : Nat) (L : Nat → Int32) (σ : MS), Wk (x_putWhole k b L σ) σ.2.1 := by
  intro k
  induction k with
  | zero => intro b L σ; exact Wk_no _
  | succ k ih =>
    intro b L σ
    match b with
    | 0 =>
      refine Wk_eq (by rw [x_putWhole]) ?_
      exact Wk_ob (Wk_c rfl (wl_loadA _ _ _ _)) (fun _ h87 => Wk_ite (Wk_ite (Wk_c h87 (ih _ _ _)) (Wk_no _)) (Wk_c h87 (ih _ _ _)))
    | 1 =>
      refine Wk_eq (by rw [x_putWhole]) ?_
      exact Wk_c rfl (ih _ _ _)
    | 2 =>
      refine Wk_eq (by rw [x_putWhole]) ?_
      exact Wk_ite (Wk_c rfl (ih _ _ _)) (Wk_c rfl (ih _ _ _))
    | 3 =>
      refine Wk_eq (by rw [x_putWhole]) ?_
      exact Wk_ite (Wk_c rfl (ih _ _ _)) (Wk_ite (Wk_ite (Wk_no _) (Wk_ite (Wk_c rfl (ih _ _ _)) (Wk_no _))) (Wk_no _))
    | 4 =>
      refine Wk_eq (by rw [x_putWhole]) ?_
      exact Wk_ite (Wk_no _) (Wk_c rfl (ih _ _ _))
    | 5 =>
      refine Wk_eq (by rw [x_putWhole]) ?_
      exact Wk_ite (Wk_c rfl (ih _ _ _)) (Wk_no _)
    | 6 =>
      refine Wk_eq (by rw [x_putWhole]) ?_
      exact Wk_c rfl (ih _ _ _)
    | 7 =>
      refine Wk_eq (by rw [x_putWhole]) ?_
      exact Wk_ite (Wk_c rfl (ih _ _ _)) (Wk_ite (Wk_ite (Wk_c rfl (ih _ _ _)) (Wk_c rfl (ih _ _ _))) (Wk_no _))
    | 8 =>
      refine Wk_eq (by rw [x_putWhole]) ?_
      exact Wk_c rfl (ih _ _ _)
    | 9 =>
      refine Wk_eq (by rw [x_putWhole]) ?_
      exact Wk_ob (Wk_c rfl (wl_signOf _ _ _ _)) (fun _ h88 => Wk_ite (Wk_c h88 (ih _ _ _)) (Wk_ob (Wk_c h88 (wl_put _ _ _ _)) (fun _ h89 => Wk_c h89 (ih _ _ _))))
    | 10 =>
      refine Wk_eq (by rw [x_putWhole]) ?_
      exact Wk_c rfl (ih _ _ _)
    | 11 =>
      refine Wk_eq (by rw [x_putWhole]) ?_
      exact Wk_ite (Wk_c rfl (ih _ _ _)) (Wk_ite (Wk_ob (Wk_c rfl (wl_put _ _ _ _)) (fun _ h90 => Wk_c h90 (ih _ _ _))) (Wk_no _))
    | 12 =>
      refine Wk_eq (by rw [x_putWhole]) ?_
      exact Wk_so rfl
    | b + 13 =>
      refine Wk_eq (by rw [x_putWhole]) (Wk_no _)
theorem wl_s_putNumber {X : Nat → Nat → Nat → (Nat → Int32) → MS → Option (Int32 × MS)} (hX : ∀ e m b L (σ : MS), Wk (X e m b L σ) σ.2.1) (k d b : Nat) (L : Nat → Int32) (σ : MS) : Wk (s_putNumber X k d b L σ) σ.2.1 := by
  match b with
  | 0 => exact Wk_ite (Wk_c rfl (hX _ _ _ _ _)) (Wk_od (fun _ => Wk_ob (Wk_c rfl (hX _ _ _ _ _)) (fun _ h91 => Wk_c h91 (hX _ _ _ _ _))))
  | 1 => exact Wk_ob (Wk_c rfl (wl_put _ _ _ _)) (fun _ h92 => Wk_so h92)
  | b + 2 => exact Wk_no _
theorem wl_GN : ∀ (k d m b : Nat) (L : Nat → Int32) (σ : MS), Wk (x_GN k d m b L σ) σ.2.1 := by
  intro k
  induction k with
  | zero => intro d m b L σ; exact Wk_no _
  | succ k ih =>
    intro d m b L σ
    match m with
    | 0 => exact wl_s_putNumber ih k d b L σ
    | m + 1 => exact Wk_no _
theorem wl_putNumber (k b : Nat) (L : Nat → Int32) (σ : MS) : Wk (x_putNumber k b L σ) σ.2.1 := wl_GN k 12 0 b L σ
theorem wl_s_print {X : Nat → Nat → Nat → (Nat → Int32) → MS → Option (Int32 × MS)} (hX : ∀ e m b L (σ : MS), Wk (X e m b L σ) σ.2.1) (k d b : Nat) (L : Nat → Int32) (σ : MS) : Wk (s_print X k d b L σ) σ.2.1 := by
  match b with
  | 0 => exact Wk_ob (Wk_c rfl (wl_kind _ _ _ _)) (fun _ h93 => Wk_ite (Wk_ob (Wk_c h93 (wl_put _ _ _ _)) (fun _ h94 => Wk_ob (Wk_c h94 (wl_put _ _ _ _)) (fun _ h95 => Wk_c h95 (hX _ _ _ _ _)))) (Wk_c h93 (hX _ _ _ _ _)))
  | 1 => exact Wk_ite (Wk_ite (Wk_c rfl (hX _ _ _ _ _)) (Wk_c rfl (hX _ _ _ _ _))) (Wk_c rfl (hX _ _ _ _ _))
  | 2 => exact Wk_c rfl (hX _ _ _ _ _)
  | 3 => exact Wk_ob (Wk_c rfl (wl_putTruth _ _ _ _)) (fun _ h96 => Wk_c h96 (hX _ _ _ _ _))
  | 4 => exact Wk_ite (Wk_ob (Wk_c rfl (wl_putWhole _ _ _ _)) (fun _ h97 => Wk_c h97 (hX _ _ _ _ _))) (Wk_c rfl (hX _ _ _ _ _))
  | 5 => exact Wk_ite (Wk_ob (Wk_c rfl (wl_put _ _ _ _)) (fun _ h98 => Wk_ite (Wk_ob (Wk_c h98 (wl_putNumber _ _ _ _)) (fun _ h99 => Wk_c h99 (hX _ _ _ _ _))) (Wk_no _))) (Wk_c rfl (hX _ _ _ _ _))
  | 6 => exact Wk_ite (Wk_ite (Wk_ob (Wk_c rfl (wl_put _ _ _ _)) (fun _ h100 => Wk_c h100 (hX _ _ _ _ _))) (Wk_c rfl (hX _ _ _ _ _))) (Wk_c rfl (hX _ _ _ _ _))
  | 7 => exact Wk_c rfl (hX _ _ _ _ _)
  | 8 => exact Wk_ite (Wk_ite (Wk_c rfl (hX _ _ _ _ _)) (Wk_ite (Wk_ob (Wk_c rfl (wl_put _ _ _ _)) (fun _ h101 => Wk_c h101 (hX _ _ _ _ _))) (Wk_no _))) (Wk_no _)
  | 9 => exact Wk_ite (Wk_ob (Wk_c rfl (wl_put _ _ _ _)) (fun _ h102 => Wk_c h102 (hX _ _ _ _ _))) (Wk_c rfl (hX _ _ _ _ _))
  | 10 => exact Wk_ite (Wk_c rfl (hX _ _ _ _ _)) (Wk_c rfl (hX _ _ _ _ _))
  | 11 => exact Wk_c rfl (hX _ _ _ _ _)
  | 12 => exact Wk_ob (Wk_c rfl (wl_put _ _ _ _)) (fun _ h103 => Wk_c h103 (hX _ _ _ _ _))
  | 13 => exact Wk_ite (Wk_ite (Wk_c rfl (hX _ _ _ _ _)) (Wk_ite (Wk_c rfl (hX _ _ _ _ _)) (Wk_ob (Wk_c rfl (wl_put _ _ _ _)) (fun _ h104 => Wk_ob (Wk_c h104 (wl_put _ _ _ _)) (fun _ h105 => Wk_c h105 (hX _ _ _ _ _)))))) (Wk_no _)
  | 14 => exact Wk_ite (Wk_od (fun _ => Wk_ob (Wk_c rfl (hX _ _ _ _ _)) (fun _ h106 => Wk_c h106 (hX _ _ _ _ _)))) (Wk_no _)
  | 15 => exact Wk_ite (Wk_c rfl (hX _ _ _ _ _)) (Wk_c rfl (hX _ _ _ _ _))
  | 16 => exact Wk_c rfl (hX _ _ _ _ _)
  | 17 => exact Wk_ob (Wk_c rfl (wl_put _ _ _ _)) (fun _ h107 => Wk_c h107 (hX _ _ _ _ _))
  | 18 => exact Wk_so rfl
  | b + 19 => exact Wk_no _
theorem wl_GP : ∀ (k d m b : Nat) (L : Nat → Int32) (σ : MS), Wk (x_GP k d m b L σ) σ.2.1 := by
  intro k
  induction k with
  | zero => intro d m b L σ; exact Wk_no _
  | succ k ih =>
    intro d m b L σ
    match m with
    | 0 => exact wl_s_print ih k d b L σ
    | m + 1 => exact Wk_no _
theorem wl_print (k b : Nat) (L : Nat → Int32) (σ : MS) : Wk (x_print k b L σ) σ.2.1 := wl_GP k 40 0 b L σ
theorem wl_intOf : ∀ (k b : Nat) (L : Nat → Int32) (J : Nat → Int64) (σ : MS), Wk (x_intOf k b L J σ) σ.2.1 := by
  intro k
  induction k with
  | zero => intro b L J σ; exact Wk_no _
  | succ k ih =>
    intro b L J σ
    match b with
    | 0 =>
      refine Wk_eq (by rw [x_intOf]) ?_
      exact Wk_ite (Wk_c rfl (ih _ _ _ _)) (Wk_no _)
    | 1 =>
      refine Wk_eq (by rw [x_intOf]) ?_
      exact Wk_ite (Wk_c rfl (ih _ _ _ _)) (Wk_ite (Wk_c rfl (ih _ _ _ _)) (Wk_c rfl (ih _ _ _ _)))
    | 2 =>
      refine Wk_eq (by rw [x_intOf]) ?_
      exact Wk_ite (Wk_c rfl (ih _ _ _ _)) (Wk_no _)
    | 3 =>
      refine Wk_eq (by rw [x_intOf]) ?_
      exact Wk_c rfl (ih _ _ _ _)
    | 4 =>
      refine Wk_eq (by rw [x_intOf]) ?_
      exact Wk_ite (Wk_c rfl (ih _ _ _ _)) (Wk_c rfl (ih _ _ _ _))
    | 5 =>
      refine Wk_eq (by rw [x_intOf]) ?_
      exact Wk_c rfl (ih _ _ _ _)
    | 6 =>
      refine Wk_eq (by rw [x_intOf]) ?_
      exact Wk_ob (Wk_c rfl (wl_signOf _ _ _ _)) (fun _ h108 => Wk_ite (Wk_c h108 (ih _ _ _ _)) (Wk_c h108 (ih _ _ _ _)))
    | 7 =>
      refine Wk_eq (by rw [x_intOf]) ?_
      exact Wk_c rfl (ih _ _ _ _)
    | 8 =>
      refine Wk_eq (by rw [x_intOf]) ?_
      exact Wk_so rfl
    | b + 9 =>
      refine Wk_eq (by rw [x_intOf]) (Wk_no _)
theorem wl_byteString : ∀ (k b : Nat) (L : Nat → Int32) (σ : MS), Wk (x_byteString k b L σ) σ.2.1 := by
  intro k
  induction k with
  | zero => intro b L σ; exact Wk_no _
  | succ k ih =>
    intro b L σ
    match b with
    | 0 =>
      refine Wk_eq (by rw [x_byteString]) ?_
      exact Wk_ob (Wk_c rfl (wl_make _ _ _ _)) (fun _ h109 => Wk_ite (Wk_c h109 (ih _ _ _)) (Wk_so h109))
    | 1 =>
      refine Wk_eq (by rw [x_byteString]) ?_
      exact Wk_ite (Wk_c rfl (ih _ _ _)) (Wk_no _)
    | 2 =>
      refine Wk_eq (by rw [x_byteString]) ?_
      exact Wk_ite (Wk_c rfl (ih _ _ _)) (Wk_no _)
    | 3 =>
      refine Wk_eq (by rw [x_byteString]) ?_
      exact Wk_so rfl
    | b + 4 =>
      refine Wk_eq (by rw [x_byteString]) (Wk_no _)
theorem wl_character : ∀ (k b : Nat) (L : Nat → Int32) (σ : MS), Wk (x_character k b L σ) σ.2.1 := by
  intro k
  induction k with
  | zero => intro b L σ; exact Wk_no _
  | succ k ih =>
    intro b L σ
    match b with
    | 0 =>
      refine Wk_eq (by rw [x_character]) ?_
      exact Wk_ob (Wk_c rfl (wl_kind _ _ _ _)) (fun _ h110 => Wk_ite (Wk_c h110 (ih _ _ _)) (Wk_ob (Wk_c h110 (wl_wrongKind _ _ _ _)) (fun _ h111 => Wk_so h111)))
    | 1 =>
      refine Wk_eq (by rw [x_character]) ?_
      exact Wk_ob (Wk_c rfl (wl_intOf _ _ _ _ _)) (fun _ h112 => Wk_ite (Wk_c h112 (ih _ _ _)) (Wk_ite (Wk_c h112 (ih _ _ _)) (Wk_c h112 (ih _ _ _))))
    | 2 =>
      refine Wk_eq (by rw [x_character]) ?_
      exact Wk_ob (Wk_c rfl (wl_fail _ _ _ _)) (fun _ h113 => Wk_so h113)
    | 3 =>
      refine Wk_eq (by rw [x_character]) ?_
      exact Wk_ob (Wk_c rfl (wl_byteString _ _ _ _)) (fun _ h114 => Wk_so h114)
    | b + 4 =>
      refine Wk_eq (by rw [x_character]) (Wk_no _)
theorem wl_small : ∀ (k b : Nat) (L : Nat → Int32) (σ : MS), Wk (x_small k b L σ) σ.2.1 := by
  intro k
  induction k with
  | zero => intro b L σ; exact Wk_no _
  | succ k ih =>
    intro b L σ
    match b with
    | 0 =>
      refine Wk_eq (by rw [x_small]) ?_
      exact Wk_c rfl (ih _ _ _)
    | 1 =>
      refine Wk_eq (by rw [x_small]) ?_
      exact Wk_ite (Wk_c rfl (ih _ _ _)) (Wk_c rfl (ih _ _ _))
    | 2 =>
      refine Wk_eq (by rw [x_small]) ?_
      exact Wk_c rfl (ih _ _ _)
    | 3 =>
      refine Wk_eq (by rw [x_small]) ?_
      exact Wk_c rfl (ih _ _ _)
    | 4 =>
      refine Wk_eq (by rw [x_small]) ?_
      exact Wk_ite (Wk_c rfl (ih _ _ _)) (Wk_ite (Wk_c rfl (ih _ _ _)) (Wk_no _))
    | 5 =>
      refine Wk_eq (by rw [x_small]) ?_
      exact Wk_c rfl (ih _ _ _)
    | 6 =>
      refine Wk_eq (by rw [x_small]) ?_
      exact Wk_ite (Wk_c rfl (ih _ _ _)) (Wk_c rfl (ih _ _ _))
    | 7 =>
      refine Wk_eq (by rw [x_small]) ?_
      exact Wk_c rfl (ih _ _ _)
    | 8 =>
      refine Wk_eq (by rw [x_small]) ?_
      exact Wk_ob (Wk_c rfl (wl_wholeOf _ _ _ _)) (fun _ h115 => Wk_so h115)
    | b + 9 =>
      refine Wk_eq (by rw [x_small]) (Wk_no _)
theorem wl_codeOf : ∀ (k b : Nat) (L : Nat → Int32) (σ : MS), Wk (x_codeOf k b L σ) σ.2.1 := by
  intro k
  induction k with
  | zero => intro b L σ; exact Wk_no _
  | succ k ih =>
    intro b L σ
    match b with
    | 0 =>
      refine Wk_eq (by rw [x_codeOf]) ?_
      exact Wk_ob (Wk_c rfl (wl_kind _ _ _ _)) (fun _ h116 => Wk_ite (Wk_c h116 (ih _ _ _)) (Wk_ob (Wk_c h116 (wl_wrongKind _ _ _ _)) (fun _ h117 => Wk_so h117)))
    | 1 =>
      refine Wk_eq (by rw [x_codeOf]) ?_
      exact Wk_ite (Wk_ite (Wk_c rfl (ih _ _ _)) (Wk_ob (Wk_c rfl (wl_fail _ _ _ _)) (fun _ h118 => Wk_so h118))) (Wk_no _)
    | 2 =>
      refine Wk_eq (by rw [x_codeOf]) ?_
      exact Wk_ite (Wk_ob (Wk_c rfl (wl_small _ _ _ _)) (fun _ h119 => Wk_so h119)) (Wk_no _)
    | b + 3 =>
      refine Wk_eq (by rw [x_codeOf]) (Wk_no _)
theorem wl_stringOf__51 : ∀ (k b : Nat) (L : Nat → Int32) (σ : MS), Wk (x_stringOf__51 k b L σ) σ.2.1 := by
  intro k
  induction k with
  | zero => intro b L σ; exact Wk_no _
  | succ k ih =>
    intro b L σ
    match b with
    | 0 =>
      refine Wk_eq (by rw [x_stringOf__51]) ?_
      exact Wk_ite (Wk_no _) (Wk_ite (Wk_c rfl (ih _ _ _)) (Wk_ob (Wk_c rfl (wl_fail _ _ _ _)) (fun _ h120 => Wk_so h120)))
    | 1 =>
      refine Wk_eq (by rw [x_stringOf__51]) ?_
      exact Wk_ob (Wk_c rfl (wl_make _ _ _ _)) (fun _ h121 => Wk_c h121 (ih _ _ _))
    | 2 =>
      refine Wk_eq (by rw [x_stringOf__51]) ?_
      exact Wk_ite (Wk_c rfl (ih _ _ _)) (Wk_ite (Wk_ite (Wk_ite (Wk_c rfl (ih _ _ _)) (Wk_no _)) (Wk_no _)) (Wk_c rfl (ih _ _ _)))
    | 3 =>
      refine Wk_eq (by rw [x_stringOf__51]) ?_
      exact Wk_c rfl (ih _ _ _)
    | 4 =>
      refine Wk_eq (by rw [x_stringOf__51]) ?_
      exact Wk_ite (Wk_no _) (Wk_ite (Wk_c rfl (ih _ _ _)) (Wk_no _))
    | 5 =>
      refine Wk_eq (by rw [x_stringOf__51]) ?_
      exact Wk_so rfl
    | b + 6 =>
      refine Wk_eq (by rw [x_stringOf__51]) (Wk_no _)
theorem wl_tupleOf : ∀ (k b : Nat) (L : Nat → Int32) (σ : MS), Wk (x_tupleOf k b L σ) σ.2.1 := by
  intro k
  induction k with
  | zero => intro b L σ; exact Wk_no _
  | succ k ih =>
    intro b L σ
    match b with
    | 0 =>
      refine Wk_eq (by rw [x_tupleOf]) ?_
      exact Wk_c rfl (ih _ _ _)
    | 1 =>
      refine Wk_eq (by rw [x_tupleOf]) ?_
      exact Wk_ite (Wk_c rfl (ih _ _ _)) (Wk_ite (Wk_ite (Wk_c rfl (ih _ _ _)) (Wk_c rfl (ih _ _ _))) (Wk_no _))
    | 2 =>
      refine Wk_eq (by rw [x_tupleOf]) ?_
      exact Wk_c rfl (ih _ _ _)
    | 3 =>
      refine Wk_eq (by rw [x_tupleOf]) ?_
      exact Wk_ob (Wk_c rfl (wl_make _ _ _ _)) (fun _ h122 => Wk_ite (Wk_c h122 (ih _ _ _)) (Wk_so h122))
    | 4 =>
      refine Wk_eq (by rw [x_tupleOf]) ?_
      exact Wk_c rfl (ih _ _ _)
    | 5 =>
      refine Wk_eq (by rw [x_tupleOf]) ?_
      exact Wk_ite (Wk_c rfl (ih _ _ _)) (Wk_ite (Wk_ite (Wk_c rfl (ih _ _ _)) (Wk_no _)) (Wk_no _))
    | 6 =>
      refine Wk_eq (by rw [x_tupleOf]) ?_
      exact Wk_c rfl (ih _ _ _)
    | 7 =>
      refine Wk_eq (by rw [x_tupleOf]) ?_
      exact Wk_ob (Wk_c rfl (wl_measured _ _ _ _)) (fun _ h123 => Wk_so h123)
    | b + 8 =>
      refine Wk_eq (by rw [x_tupleOf]) (Wk_no _)
theorem wl_reversed : ∀ (k b : Nat) (L : Nat → Int32) (σ : MS), Wk (x_reversed k b L σ) σ.2.1 := by
  intro k
  induction k with
  | zero => intro b L σ; exact Wk_no _
  | succ k ih =>
    intro b L σ
    match b with
    | 0 =>
      refine Wk_eq (by rw [x_reversed]) ?_
      exact Wk_ob (Wk_c rfl (wl_kind _ _ _ _)) (fun _ h124 => Wk_ite (Wk_c h124 (ih _ _ _)) (Wk_ite (Wk_c h124 (ih _ _ _)) (Wk_ob (Wk_c h124 (wl_wrongKind _ _ _ _)) (fun _ h125 => Wk_so h125))))
    | 1 =>
      refine Wk_eq (by rw [x_reversed]) ?_
      exact Wk_ite (Wk_ite (Wk_c rfl (ih _ _ _)) (Wk_c rfl (ih _ _ _))) (Wk_no _)
    | 2 =>
      refine Wk_eq (by rw [x_reversed]) ?_
      exact Wk_ite (Wk_c rfl (ih _ _ _)) (Wk_ite (Wk_ite (Wk_c rfl (ih _ _ _)) (Wk_no _)) (Wk_no _))
    | 3 =>
      refine Wk_eq (by rw [x_reversed]) ?_
      exact Wk_c rfl (ih _ _ _)
    | 4 =>
      refine Wk_eq (by rw [x_reversed]) ?_
      exact Wk_ob (Wk_c rfl (wl_stringOf__51 _ _ _ _)) (fun _ h126 => Wk_so h126)
    | 5 =>
      refine Wk_eq (by rw [x_reversed]) ?_
      exact Wk_c rfl (ih _ _ _)
    | 6 =>
      refine Wk_eq (by rw [x_reversed]) ?_
      exact Wk_ite (Wk_c rfl (ih _ _ _)) (Wk_ite (Wk_ob (Wk_c rfl (wl_push _ _ _ _)) (fun _ h127 => Wk_c h127 (ih _ _ _))) (Wk_no _))
    | 7 =>
      refine Wk_eq (by rw [x_reversed]) ?_
      exact Wk_ob (Wk_c rfl (wl_tupleOf _ _ _ _)) (fun _ h128 => Wk_so h128)
    | b + 8 =>
      refine Wk_eq (by rw [x_reversed]) (Wk_no _)
theorem wl_memberAt : ∀ (k b : Nat) (L : Nat → Int32) (σ : MS), Wk (x_memberAt k b L σ) σ.2.1 := by
  intro k
  induction k with
  | zero => intro b L σ; exact Wk_no _
  | succ k ih =>
    intro b L σ
    match b with
    | 0 =>
      refine Wk_eq (by rw [x_memberAt]) ?_
      exact Wk_ite (Wk_ite (Wk_ite (Wk_ob (Wk_c rfl (wl_byteString _ _ _ _)) (fun _ h129 => Wk_c h129 (ih _ _ _))) (Wk_no _)) (Wk_c rfl (ih _ _ _))) (Wk_no _)
    | 1 =>
      refine Wk_eq (by rw [x_memberAt]) ?_
      exact Wk_ite (Wk_c rfl (ih _ _ _)) (Wk_no _)
    | 2 =>
      refine Wk_eq (by rw [x_memberAt]) ?_
      exact Wk_so rfl
    | b + 3 =>
      refine Wk_eq (by rw [x_memberAt]) (Wk_no _)
theorem wl_negative : ∀ (k b : Nat) (L : Nat → Int32) (σ : MS), Wk (x_negative k b L σ) σ.2.1 := by
  intro k
  induction k with
  | zero => intro b L σ; exact Wk_no _
  | succ k ih =>
    intro b L σ
    match b with
    | 0 =>
      refine Wk_eq (by rw [x_negative]) ?_
      exact Wk_ob (Wk_c rfl (wl_kind _ _ _ _)) (fun _ h130 => Wk_ite (Wk_c h130 (ih _ _ _)) (Wk_ob (Wk_c h130 (wl_wrongKind _ _ _ _)) (fun _ h131 => Wk_c h131 (ih _ _ _))))
    | 1 =>
      refine Wk_eq (by rw [x_negative]) ?_
      exact Wk_ob (Wk_c rfl (wl_other _ _ _ _)) (fun _ h132 => Wk_c h132 (ih _ _ _))
    | 2 =>
      refine Wk_eq (by rw [x_negative]) ?_
      exact Wk_so rfl
    | b + 3 =>
      refine Wk_eq (by rw [x_negative]) (Wk_no _)
theorem wl_many : ∀ (k b : Nat) (L : Nat → Int32) (σ : MS), Wk (x_many k b L σ) σ.2.1 := by
  intro k
  induction k with
  | zero => intro b L σ; exact Wk_no _
  | succ k ih =>
    intro b L σ
    match b with
    | 0 =>
      refine Wk_eq (by rw [x_many]) ?_
      exact Wk_ob (Wk_c rfl (wl_kind _ _ _ _)) (fun _ h133 => Wk_ite (Wk_c h133 (ih _ _ _)) (Wk_ob (Wk_c h133 (wl_fail _ _ _ _)) (fun _ h134 => Wk_so h134)))
    | 1 =>
      refine Wk_eq (by rw [x_many]) ?_
      exact Wk_ite (Wk_ob (Wk_c rfl (wl_small _ _ _ _)) (fun _ h135 => Wk_so h135)) (Wk_no _)
    | b + 2 =>
      refine Wk_eq (by rw [x_many]) (Wk_no _)
theorem wl_truth : ∀ (k b : Nat) (L : Nat → Int32) (σ : MS), Wk (x_truth k b L σ) σ.2.1 := by
  intro k
  induction k with
  | zero => intro b L σ; exact Wk_no _
  | succ k ih =>
    intro b L σ
    match b with
    | 0 =>
      refine Wk_eq (by rw [x_truth]) ?_
      exact Wk_ite (Wk_c rfl (ih _ _ _)) (Wk_c rfl (ih _ _ _))
    | 1 =>
      refine Wk_eq (by rw [x_truth]) ?_
      exact Wk_c rfl (ih _ _ _)
    | 2 =>
      refine Wk_eq (by rw [x_truth]) ?_
      exact Wk_so rfl
    | b + 3 =>
      refine Wk_eq (by rw [x_truth]) (Wk_no _)
theorem wl_turned : ∀ (k b : Nat) (L : Nat → Int32) (σ : MS), Wk (x_turned k b L σ) σ.2.1 := by
  intro k
  induction k with
  | zero => intro b L σ; exact Wk_no _
  | succ k ih =>
    intro b L σ
    match b with
    | 0 =>
      refine Wk_eq (by rw [x_turned]) ?_
      exact Wk_ite (Wk_c rfl (ih _ _ _)) (Wk_ite (Wk_c rfl (ih _ _ _)) (Wk_ob (Wk_c rfl (wl_fail _ _ _ _)) (fun _ h136 => Wk_c h136 (ih _ _ _))))
    | 1 =>
      refine Wk_eq (by rw [x_turned]) ?_
      exact Wk_ite (Wk_c rfl (ih _ _ _)) (Wk_c rfl (ih _ _ _))
    | 2 =>
      refine Wk_eq (by rw [x_turned]) ?_
      exact Wk_c rfl (ih _ _ _)
    | 3 =>
      refine Wk_eq (by rw [x_turned]) ?_
      exact Wk_ob (Wk_c rfl (wl_truth _ _ _ _)) (fun _ h137 => Wk_so h137)
    | b + 4 =>
      refine Wk_eq (by rw [x_turned]) (Wk_no _)
theorem wl_loadB : ∀ (k b : Nat) (L : Nat → Int32) (σ : MS), Wk (x_loadB k b L σ) σ.2.1 := by
  intro k
  induction k with
  | zero => intro b L σ; exact Wk_no _
  | succ k ih =>
    intro b L σ
    match b with
    | 0 =>
      refine Wk_eq (by rw [x_loadB]) ?_
      exact Wk_ite (Wk_c rfl (ih _ _ _)) (Wk_no _)
    | 1 =>
      refine Wk_eq (by rw [x_loadB]) ?_
      exact Wk_c rfl (ih _ _ _)
    | 2 =>
      refine Wk_eq (by rw [x_loadB]) ?_
      exact Wk_ite (Wk_c rfl (ih _ _ _)) (Wk_ite (Wk_ite (Wk_c rfl (ih _ _ _)) (Wk_no _)) (Wk_no _))
    | 3 =>
      refine Wk_eq (by rw [x_loadB]) ?_
      exact Wk_c rfl (ih _ _ _)
    | 4 =>
      refine Wk_eq (by rw [x_loadB]) ?_
      exact Wk_so rfl
    | b + 5 =>
      refine Wk_eq (by rw [x_loadB]) (Wk_no _)
theorem wl_compareRows__42__43 : ∀ (k b : Nat) (L : Nat → Int32) (σ : MS), Wk (x_compareRows__42__43 k b L σ) σ.2.1 := by
  intro k
  induction k with
  | zero => intro b L σ; exact Wk_no _
  | succ k ih =>
    intro b L σ
    match b with
    | 0 =>
      refine Wk_eq (by rw [x_compareRows__42__43]) ?_
      exact Wk_c rfl (ih _ _ _)
    | 1 =>
      refine Wk_eq (by rw [x_compareRows__42__43]) ?_
      exact Wk_ite (Wk_c rfl (ih _ _ _)) (Wk_ite (Wk_ite (Wk_ite (Wk_c rfl (ih _ _ _)) (Wk_no _)) (Wk_no _)) (Wk_c rfl (ih _ _ _)))
    | 2 =>
      refine Wk_eq (by rw [x_compareRows__42__43]) ?_
      exact Wk_so rfl
    | b + 3 =>
      refine Wk_eq (by rw [x_compareRows__42__43]) (Wk_no _)
theorem wl_add : ∀ (k b : Nat) (L : Nat → Int32) (σ : MS), Wk (x_add k b L σ) σ.2.1 := by
  intro k
  induction k with
  | zero => intro b L σ; exact Wk_no _
  | succ k ih =>
    intro b L σ
    match b with
    | 0 =>
      refine Wk_eq (by rw [x_add]) ?_
      exact Wk_ob (Wk_c rfl (wl_loadA _ _ _ _)) (fun _ h138 => Wk_ob (Wk_c h138 (wl_loadB _ _ _ _)) (fun _ h139 => Wk_ob (Wk_c h139 (wl_signOf _ _ _ _)) (fun _ h140 => Wk_ob (Wk_c h140 (wl_signOf _ _ _ _)) (fun _ h141 => Wk_ite (Wk_c h141 (ih _ _ _)) (Wk_ite (Wk_c h141 (ih _ _ _)) (Wk_ite (Wk_c h141 (ih _ _ _)) (Wk_c h141 (ih _ _ _))))))))
    | 1 =>
      refine Wk_eq (by rw [x_add]) ?_
      exact Wk_ite (Wk_c rfl (ih _ _ _)) (Wk_c rfl (ih _ _ _))
    | 2 =>
      refine Wk_eq (by rw [x_add]) ?_
      exact Wk_c rfl (ih _ _ _)
    | 3 =>
      refine Wk_eq (by rw [x_add]) ?_
      exact Wk_c rfl (ih _ _ _)
    | 4 =>
      refine Wk_eq (by rw [x_add]) ?_
      exact Wk_c rfl (ih _ _ _)
    | 5 =>
      refine Wk_eq (by rw [x_add]) ?_
      exact Wk_ite (Wk_c rfl (ih _ _ _)) (Wk_ite (Wk_c rfl (ih _ _ _)) (Wk_ite (Wk_c rfl (ih _ _ _)) (Wk_no _)))
    | 6 =>
      refine Wk_eq (by rw [x_add]) ?_
      exact Wk_c rfl (ih _ _ _)
    | 7 =>
      refine Wk_eq (by rw [x_add]) ?_
      exact Wk_ite (Wk_c rfl (ih _ _ _)) (Wk_ite (Wk_c rfl (ih _ _ _)) (Wk_no _))
    | 8 =>
      refine Wk_eq (by rw [x_add]) ?_
      exact Wk_c rfl (ih _ _ _)
    | 9 =>
      refine Wk_eq (by rw [x_add]) ?_
      exact Wk_ite (Wk_c rfl (ih _ _ _)) (Wk_no _)
    | 10 =>
      refine Wk_eq (by rw [x_add]) ?_
      exact Wk_c rfl (ih _ _ _)
    | 11 =>
      refine Wk_eq (by rw [x_add]) ?_
      exact Wk_ite (Wk_c rfl (ih _ _ _)) (Wk_ite (Wk_c rfl (ih _ _ _)) (Wk_no _))
    | 12 =>
      refine Wk_eq (by rw [x_add]) ?_
      exact Wk_c rfl (ih _ _ _)
    | 13 =>
      refine Wk_eq (by rw [x_add]) ?_
      exact Wk_ite (Wk_c rfl (ih _ _ _)) (Wk_c rfl (ih _ _ _))
    | 14 =>
      refine Wk_eq (by rw [x_add]) ?_
      exact Wk_c rfl (ih _ _ _)
    | 15 =>
      refine Wk_eq (by rw [x_add]) ?_
      exact Wk_ob (Wk_c rfl (wl_wholeOf _ _ _ _)) (fun _ h142 => Wk_so h142)
    | 16 =>
      refine Wk_eq (by rw [x_add]) ?_
      exact Wk_ob (Wk_c rfl (wl_compareRows__42__43 _ _ _ _)) (fun _ h143 => Wk_ite (Wk_c h143 (ih _ _ _)) (Wk_c h143 (ih _ _ _)))
    | 17 =>
      refine Wk_eq (by rw [x_add]) ?_
      exact Wk_c rfl (ih _ _ _)
    | 18 =>
      refine Wk_eq (by rw [x_add]) ?_
      exact Wk_c rfl (ih _ _ _)
    | 19 =>
      refine Wk_eq (by rw [x_add]) ?_
      exact Wk_c rfl (ih _ _ _)
    | 20 =>
      refine Wk_eq (by rw [x_add]) ?_
      exact Wk_ite (Wk_c rfl (ih _ _ _)) (Wk_ite (Wk_c rfl (ih _ _ _)) (Wk_ite (Wk_c rfl (ih _ _ _)) (Wk_no _)))
    | 21 =>
      refine Wk_eq (by rw [x_add]) ?_
      exact Wk_c rfl (ih _ _ _)
    | 22 =>
      refine Wk_eq (by rw [x_add]) ?_
      exact Wk_ite (Wk_c rfl (ih _ _ _)) (Wk_ite (Wk_c rfl (ih _ _ _)) (Wk_no _))
    | 23 =>
      refine Wk_eq (by rw [x_add]) ?_
      exact Wk_c rfl (ih _ _ _)
    | 24 =>
      refine Wk_eq (by rw [x_add]) ?_
      exact Wk_ite (Wk_c rfl (ih _ _ _)) (Wk_c rfl (ih _ _ _))
    | 25 =>
      refine Wk_eq (by rw [x_add]) ?_
      exact Wk_c rfl (ih _ _ _)
    | 26 =>
      refine Wk_eq (by rw [x_add]) ?_
      exact Wk_ite (Wk_c rfl (ih _ _ _)) (Wk_c rfl (ih _ _ _))
    | 27 =>
      refine Wk_eq (by rw [x_add]) ?_
      exact Wk_c rfl (ih _ _ _)
    | 28 =>
      refine Wk_eq (by rw [x_add]) ?_
      exact Wk_ite (Wk_c rfl (ih _ _ _)) (Wk_no _)
    | 29 =>
      refine Wk_eq (by rw [x_add]) ?_
      exact Wk_c rfl (ih _ _ _)
    | 30 =>
      refine Wk_eq (by rw [x_add]) ?_
      exact Wk_ite (Wk_c rfl (ih _ _ _)) (Wk_c rfl (ih _ _ _))
    | 31 =>
      refine Wk_eq (by rw [x_add]) ?_
      exact Wk_c rfl (ih _ _ _)
    | 32 =>
      refine Wk_eq (by rw [x_add]) ?_
      exact Wk_ob (Wk_c rfl (wl_wholeOf _ _ _ _)) (fun _ h144 => Wk_so h144)
    | b + 33 =>
      refine Wk_eq (by rw [x_add]) (Wk_no _)
theorem wl_joined : ∀ (k b : Nat) (L : Nat → Int32) (σ : MS), Wk (x_joined k b L σ) σ.2.1 := by
  intro k
  induction k with
  | zero => intro b L σ; exact Wk_no _
  | succ k ih =>
    intro b L σ
    match b with
    | 0 =>
      refine Wk_eq (by rw [x_joined]) ?_
      exact Wk_ite (Wk_ite (Wk_c rfl (ih _ _ _)) (Wk_no _)) (Wk_no _)
    | 1 =>
      refine Wk_eq (by rw [x_joined]) ?_
      exact Wk_ite (Wk_c rfl (ih _ _ _)) (Wk_ite (Wk_ite (Wk_c rfl (ih _ _ _)) (Wk_no _)) (Wk_no _))
    | 2 =>
      refine Wk_eq (by rw [x_joined]) ?_
      exact Wk_c rfl (ih _ _ _)
    | 3 =>
      refine Wk_eq (by rw [x_joined]) ?_
      exact Wk_c rfl (ih _ _ _)
    | 4 =>
      refine Wk_eq (by rw [x_joined]) ?_
      exact Wk_ite (Wk_c rfl (ih _ _ _)) (Wk_ite (Wk_ite (Wk_c rfl (ih _ _ _)) (Wk_no _)) (Wk_no _))
    | 5 =>
      refine Wk_eq (by rw [x_joined]) ?_
      exact Wk_c rfl (ih _ _ _)
    | 6 =>
      refine Wk_eq (by rw [x_joined]) ?_
      exact Wk_ob (Wk_c rfl (wl_stringOf__51 _ _ _ _)) (fun _ h145 => Wk_so h145)
    | b + 7 =>
      refine Wk_eq (by rw [x_joined]) (Wk_no _)
theorem wl_plus : ∀ (k b : Nat) (L : Nat → Int32) (σ : MS), Wk (x_plus k b L σ) σ.2.1 := by
  intro k
  induction k with
  | zero => intro b L σ; exact Wk_no _
  | succ k ih =>
    intro b L σ
    match b with
    | 0 =>
      refine Wk_eq (by rw [x_plus]) ?_
      exact Wk_ob (Wk_c rfl (wl_kind _ _ _ _)) (fun _ h146 => Wk_ob (Wk_c h146 (wl_kind _ _ _ _)) (fun _ h147 => Wk_ite (Wk_ite (Wk_c h147 (ih _ _ _)) (Wk_ite (Wk_c h147 (ih _ _ _)) (Wk_c h147 (ih _ _ _)))) (Wk_c h147 (ih _ _ _))))
    | 1 =>
      refine Wk_eq (by rw [x_plus]) ?_
      exact Wk_ob (Wk_c rfl (wl_wrongKind _ _ _ _)) (fun _ h148 => Wk_so h148)
    | 2 =>
      refine Wk_eq (by rw [x_plus]) ?_
      exact Wk_ite (Wk_ob (Wk_c rfl (wl_add _ _ _ _)) (fun _ h149 => Wk_so h149)) (Wk_c rfl (ih _ _ _))
    | 3 =>
      refine Wk_eq (by rw [x_plus]) ?_
      exact Wk_ite (Wk_ob (Wk_c rfl (wl_joined _ _ _ _)) (fun _ h150 => Wk_so h150)) (Wk_c rfl (ih _ _ _))
    | 4 =>
      refine Wk_eq (by rw [x_plus]) ?_
      exact Wk_c rfl (ih _ _ _)
    | 5 =>
      refine Wk_eq (by rw [x_plus]) ?_
      exact Wk_ite (Wk_ite (Wk_c rfl (ih _ _ _)) (Wk_ite (Wk_ob (Wk_c rfl (wl_push _ _ _ _)) (fun _ h151 => Wk_c h151 (ih _ _ _))) (Wk_no _))) (Wk_no _)
    | 6 =>
      refine Wk_eq (by rw [x_plus]) ?_
      exact Wk_c rfl (ih _ _ _)
    | 7 =>
      refine Wk_eq (by rw [x_plus]) ?_
      exact Wk_ite (Wk_ite (Wk_c rfl (ih _ _ _)) (Wk_ite (Wk_ob (Wk_c rfl (wl_push _ _ _ _)) (fun _ h152 => Wk_c h152 (ih _ _ _))) (Wk_no _))) (Wk_no _)
    | 8 =>
      refine Wk_eq (by rw [x_plus]) ?_
      exact Wk_ite (Wk_ob (Wk_c rfl (wl_setOf _ _ _ _)) (fun _ h153 => Wk_c h153 (ih _ _ _))) (Wk_c rfl (ih _ _ _))
    | 9 =>
      refine Wk_eq (by rw [x_plus]) ?_
      exact Wk_ob (Wk_c rfl (wl_tupleOf _ _ _ _)) (fun _ h154 => Wk_c h154 (ih _ _ _))
    | 10 =>
      refine Wk_eq (by rw [x_plus]) ?_
      exact Wk_so rfl
    | b + 11 =>
      refine Wk_eq (by rw [x_plus]) (Wk_no _)
theorem wl_has : ∀ (k b : Nat) (L : Nat → Int32) (σ : MS), Wk (x_has k b L σ) σ.2.1 := by
  intro k
  induction k with
  | zero => intro b L σ; exact Wk_no _
  | succ k ih =>
    intro b L σ
    match b with
    | 0 =>
      refine Wk_eq (by rw [x_has]) ?_
      exact Wk_ite (Wk_c rfl (ih _ _ _)) (Wk_no _)
    | 1 =>
      refine Wk_eq (by rw [x_has]) ?_
      exact Wk_ite (Wk_c rfl (ih _ _ _)) (Wk_ite (Wk_no _) (Wk_ite (Wk_ob (Wk_c rfl (wl_compare _ _ _ _)) (fun _ h155 => Wk_ite (Wk_so h155) (Wk_c h155 (ih _ _ _)))) (Wk_no _)))
    | 2 =>
      refine Wk_eq (by rw [x_has]) ?_
      exact Wk_ite (Wk_c rfl (ih _ _ _)) (Wk_c rfl (ih _ _ _))
    | 3 =>
      refine Wk_eq (by rw [x_has]) ?_
      exact Wk_c rfl (ih _ _ _)
    | 4 =>
      refine Wk_eq (by rw [x_has]) ?_
      exact Wk_ite (Wk_c rfl (ih _ _ _)) (Wk_c rfl (ih _ _ _))
    | 5 =>
      refine Wk_eq (by rw [x_has]) ?_
      exact Wk_c rfl (ih _ _ _)
    | 6 =>
      refine Wk_eq (by rw [x_has]) ?_
      exact Wk_c rfl (ih _ _ _)
    | 7 =>
      refine Wk_eq (by rw [x_has]) ?_
      exact Wk_so rfl
    | b + 8 =>
      refine Wk_eq (by rw [x_has]) (Wk_no _)
theorem wl_sift : ∀ (k b : Nat) (L : Nat → Int32) (σ : MS), Wk (x_sift k b L σ) σ.2.1 := by
  intro k
  induction k with
  | zero => intro b L σ; exact Wk_no _
  | succ k ih =>
    intro b L σ
    match b with
    | 0 =>
      refine Wk_eq (by rw [x_sift]) ?_
      exact Wk_c rfl (ih _ _ _)
    | 1 =>
      refine Wk_eq (by rw [x_sift]) ?_
      exact Wk_ite (Wk_ite (Wk_c rfl (ih _ _ _)) (Wk_ite (Wk_ob (Wk_c rfl (wl_has _ _ _ _)) (fun _ h156 => Wk_ite (Wk_ite (Wk_ob (Wk_c h156 (wl_push _ _ _ _)) (fun _ h157 => Wk_c h157 (ih _ _ _))) (Wk_no _)) (Wk_c h156 (ih _ _ _)))) (Wk_no _))) (Wk_no _)
    | 2 =>
      refine Wk_eq (by rw [x_sift]) ?_
      exact Wk_c rfl (ih _ _ _)
    | 3 =>
      refine Wk_eq (by rw [x_sift]) ?_
      exact Wk_ob (Wk_c rfl (wl_setOf _ _ _ _)) (fun _ h158 => Wk_so h158)
    | b + 4 =>
      refine Wk_eq (by rw [x_sift]) (Wk_no _)
theorem wl_multiply : ∀ (k b : Nat) (L : Nat → Int32) (J : Nat → Int64) (σ : MS), Wk (x_multiply k b L J σ) σ.2.1 := by
  intro k
  induction k with
  | zero => intro b L J σ; exact Wk_no _
  | succ k ih =>
    intro b L J σ
    match b with
    | 0 =>
      refine Wk_eq (by rw [x_multiply]) ?_
      exact Wk_ob (Wk_c rfl (wl_loadA _ _ _ _)) (fun _ h159 => Wk_ob (Wk_c h159 (wl_loadB _ _ _ _)) (fun _ h160 => Wk_c h160 (ih _ _ _ _)))
    | 1 =>
      refine Wk_eq (by rw [x_multiply]) ?_
      exact Wk_c rfl (ih _ _ _ _)
    | 2 =>
      refine Wk_eq (by rw [x_multiply]) ?_
      exact Wk_ite (Wk_c rfl (ih _ _ _ _)) (Wk_ite (Wk_c rfl (ih _ _ _ _)) (Wk_no _))
    | 3 =>
      refine Wk_eq (by rw [x_multiply]) ?_
      exact Wk_c rfl (ih _ _ _ _)
    | 4 =>
      refine Wk_eq (by rw [x_multiply]) ?_
      exact Wk_c rfl (ih _ _ _ _)
    | 5 =>
      refine Wk_eq (by rw [x_multiply]) ?_
      exact Wk_ite (Wk_c rfl (ih _ _ _ _)) (Wk_c rfl (ih _ _ _ _))
    | 6 =>
      refine Wk_eq (by rw [x_multiply]) ?_
      exact Wk_ite (Wk_c rfl (ih _ _ _ _)) (Wk_ite (Wk_ite (Wk_ite (Wk_ite (Wk_c rfl (ih _ _ _ _)) (Wk_no _)) (Wk_no _)) (Wk_no _)) (Wk_no _))
    | 7 =>
      refine Wk_eq (by rw [x_multiply]) ?_
      exact Wk_c rfl (ih _ _ _ _)
    | 8 =>
      refine Wk_eq (by rw [x_multiply]) ?_
      exact Wk_ite (Wk_c rfl (ih _ _ _ _)) (Wk_no _)
    | 9 =>
      refine Wk_eq (by rw [x_multiply]) ?_
      exact Wk_c rfl (ih _ _ _ _)
    | 10 =>
      refine Wk_eq (by rw [x_multiply]) ?_
      exact Wk_ob (Wk_c rfl (wl_signOf _ _ _ _)) (fun _ h161 => Wk_ob (Wk_c h161 (wl_signOf _ _ _ _)) (fun _ h162 => Wk_ob (Wk_c h162 (wl_wholeOf _ _ _ _)) (fun _ h163 => Wk_so h163)))
    | b + 11 =>
      refine Wk_eq (by rw [x_multiply]) (Wk_no _)
theorem wl_repeat : ∀ (k b : Nat) (L : Nat → Int32) (σ : MS), Wk (x_repeat k b L σ) σ.2.1 := by
  intro k
  induction k with
  | zero => intro b L σ; exact Wk_no _
  | succ k ih =>
    intro b L σ
    match b with
    | 0 =>
      refine Wk_eq (by rw [x_repeat]) ?_
      exact Wk_ob (Wk_c rfl (wl_signOf _ _ _ _)) (fun _ h164 => Wk_ite (Wk_c h164 (ih _ _ _)) (Wk_ob (Wk_c h164 (wl_fail _ _ _ _)) (fun _ h165 => Wk_so h165)))
    | 1 =>
      refine Wk_eq (by rw [x_repeat]) ?_
      exact Wk_ite (Wk_ite (Wk_c rfl (ih _ _ _)) (Wk_c rfl (ih _ _ _))) (Wk_no _)
    | 2 =>
      refine Wk_eq (by rw [x_repeat]) ?_
      exact Wk_ob (Wk_c rfl (wl_intOf _ _ _ _ _)) (fun _ h166 => Wk_c h166 (ih _ _ _))
    | 3 =>
      refine Wk_eq (by rw [x_repeat]) ?_
      exact Wk_ite (Wk_c rfl (ih _ _ _)) (Wk_ob (Wk_c rfl (wl_fail _ _ _ _)) (fun _ h167 => Wk_so h167))
    | 4 =>
      refine Wk_eq (by rw [x_repeat]) ?_
      exact Wk_ite (Wk_ite (Wk_c rfl (ih _ _ _)) (Wk_c rfl (ih _ _ _))) (Wk_no _)
    | 5 =>
      refine Wk_eq (by rw [x_repeat]) ?_
      exact Wk_ite (Wk_c rfl (ih _ _ _)) (Wk_ite (Wk_no _) (Wk_ite (Wk_ite (Wk_c rfl (ih _ _ _)) (Wk_no _)) (Wk_no _)))
    | 6 =>
      refine Wk_eq (by rw [x_repeat]) ?_
      exact Wk_c rfl (ih _ _ _)
    | 7 =>
      refine Wk_eq (by rw [x_repeat]) ?_
      exact Wk_ob (Wk_c rfl (wl_stringOf__51 _ _ _ _)) (fun _ h168 => Wk_so h168)
    | 8 =>
      refine Wk_eq (by rw [x_repeat]) ?_
      exact Wk_c rfl (ih _ _ _)
    | 9 =>
      refine Wk_eq (by rw [x_repeat]) ?_
      exact Wk_ite (Wk_c rfl (ih _ _ _)) (Wk_ite (Wk_no _) (Wk_ite (Wk_ob (Wk_c rfl (wl_push _ _ _ _)) (fun _ h169 => Wk_c h169 (ih _ _ _))) (Wk_no _)))
    | 10 =>
      refine Wk_eq (by rw [x_repeat]) ?_
      exact Wk_ob (Wk_c rfl (wl_tupleOf _ _ _ _)) (fun _ h170 => Wk_so h170)
    | b + 11 =>
      refine Wk_eq (by rw [x_repeat]) (Wk_no _)
theorem wl_rowsTimes : ∀ (k b : Nat) (L : Nat → Int32) (J : Nat → Int64) (σ : MS), Wk (x_rowsTimes k b L J σ) σ.2.1 := by
  intro k
  induction k with
  | zero => intro b L J σ; exact Wk_no _
  | succ k ih =>
    intro b L J σ
    match b with
    | 0 =>
      refine Wk_eq (by rw [x_rowsTimes]) ?_
      exact Wk_c rfl (ih _ _ _ _)
    | 1 =>
      refine Wk_eq (by rw [x_rowsTimes]) ?_
      exact Wk_c rfl (ih _ _ _ _)
    | 2 =>
      refine Wk_eq (by rw [x_rowsTimes]) ?_
      exact Wk_ite (Wk_c rfl (ih _ _ _ _)) (Wk_ite (Wk_c rfl (ih _ _ _ _)) (Wk_no _))
    | 3 =>
      refine Wk_eq (by rw [x_rowsTimes]) ?_
      exact Wk_c rfl (ih _ _ _ _)
    | 4 =>
      refine Wk_eq (by rw [x_rowsTimes]) ?_
      exact Wk_c rfl (ih _ _ _ _)
    | 5 =>
      refine Wk_eq (by rw [x_rowsTimes]) ?_
      exact Wk_ite (Wk_c rfl (ih _ _ _ _)) (Wk_c rfl (ih _ _ _ _))
    | 6 =>
      refine Wk_eq (by rw [x_rowsTimes]) ?_
      exact Wk_ite (Wk_c rfl (ih _ _ _ _)) (Wk_ite (Wk_ite (Wk_ite (Wk_ite (Wk_c rfl (ih _ _ _ _)) (Wk_no _)) (Wk_no _)) (Wk_no _)) (Wk_no _))
    | 7 =>
      refine Wk_eq (by rw [x_rowsTimes]) ?_
      exact Wk_c rfl (ih _ _ _ _)
    | 8 =>
      refine Wk_eq (by rw [x_rowsTimes]) ?_
      exact Wk_ite (Wk_c rfl (ih _ _ _ _)) (Wk_no _)
    | 9 =>
      refine Wk_eq (by rw [x_rowsTimes]) ?_
      exact Wk_c rfl (ih _ _ _ _)
    | 10 =>
      refine Wk_eq (by rw [x_rowsTimes]) ?_
      exact Wk_ite (Wk_c rfl (ih _ _ _ _)) (Wk_ite (Wk_ite (Wk_c rfl (ih _ _ _ _)) (Wk_c rfl (ih _ _ _ _))) (Wk_no _))
    | 11 =>
      refine Wk_eq (by rw [x_rowsTimes]) ?_
      exact Wk_so rfl
    | b + 12 =>
      refine Wk_eq (by rw [x_rowsTimes]) (Wk_no _)
theorem wl_raise : ∀ (k b : Nat) (L : Nat → Int32) (σ : MS), Wk (x_raise k b L σ) σ.2.1 := by
  intro k
  induction k with
  | zero => intro b L σ; exact Wk_no _
  | succ k ih =>
    intro b L σ
    match b with
    | 0 =>
      refine Wk_eq (by rw [x_raise]) ?_
      exact Wk_ob (Wk_c rfl (wl_signOf _ _ _ _)) (fun _ h171 => Wk_ite (Wk_c h171 (ih _ _ _)) (Wk_ob (Wk_c h171 (wl_fail _ _ _ _)) (fun _ h172 => Wk_so h172)))
    | 1 =>
      refine Wk_eq (by rw [x_raise]) ?_
      exact Wk_ob (Wk_c rfl (wl_intOf _ _ _ _ _)) (fun _ h173 => Wk_ite (Wk_ob (Wk_c h173 (wl_small _ _ _ _)) (fun _ h174 => Wk_so h174)) (Wk_c h173 (ih _ _ _)))
    | 2 =>
      refine Wk_eq (by rw [x_raise]) ?_
      exact Wk_ite (Wk_ite (Wk_c rfl (ih _ _ _)) (Wk_ite (Wk_ite (Wk_c rfl (ih _ _ _)) (Wk_c rfl (ih _ _ _))) (Wk_no _))) (Wk_no _)
    | 3 =>
      refine Wk_eq (by rw [x_raise]) ?_
      exact Wk_c rfl (ih _ _ _)
    | 4 =>
      refine Wk_eq (by rw [x_raise]) ?_
      exact Wk_ite (Wk_ite (Wk_c rfl (ih _ _ _)) (Wk_ite (Wk_ite (Wk_ite (Wk_ite (Wk_c rfl (ih _ _ _)) (Wk_c rfl (ih _ _ _))) (Wk_no _)) (Wk_c rfl (ih _ _ _))) (Wk_no _))) (Wk_no _)
    | 5 =>
      refine Wk_eq (by rw [x_raise]) ?_
      exact Wk_ob (Wk_c rfl (wl_signOf _ _ _ _)) (fun _ h175 => Wk_ite (Wk_c h175 (ih _ _ _)) (Wk_ite (Wk_c h175 (ih _ _ _)) (Wk_c h175 (ih _ _ _))))
    | 6 =>
      refine Wk_eq (by rw [x_raise]) ?_
      exact Wk_c rfl (ih _ _ _)
    | 7 =>
      refine Wk_eq (by rw [x_raise]) ?_
      exact Wk_ob (Wk_c rfl (wl_small _ _ _ _)) (fun _ h176 => Wk_c h176 (ih _ _ _))
    | 8 =>
      refine Wk_eq (by rw [x_raise]) ?_
      exact Wk_so rfl
    | 9 =>
      refine Wk_eq (by rw [x_raise]) ?_
      exact Wk_ob (Wk_c rfl (wl_loadA _ _ _ _)) (fun _ h177 => Wk_c h177 (ih _ _ _))
    | 10 =>
      refine Wk_eq (by rw [x_raise]) ?_
      exact Wk_ite (Wk_c rfl (ih _ _ _)) (Wk_ite (Wk_ite (Wk_c rfl (ih _ _ _)) (Wk_no _)) (Wk_no _))
    | 11 =>
      refine Wk_eq (by rw [x_raise]) ?_
      exact Wk_c rfl (ih _ _ _)
    | 12 =>
      refine Wk_eq (by rw [x_raise]) ?_
      exact Wk_c rfl (ih _ _ _)
    | 13 =>
      refine Wk_eq (by rw [x_raise]) ?_
      exact Wk_ite (Wk_c rfl (ih _ _ _)) (Wk_ite (Wk_ob (Wk_c rfl (wl_rowsTimes _ _ _ _ _)) (fun _ h178 => Wk_ite (Wk_c h178 (ih _ _ _)) (Wk_ob (Wk_c h178 (wl_fail _ _ _ _)) (fun _ h179 => Wk_c h179 (ih _ _ _))))) (Wk_c rfl (ih _ _ _)))
    | 14 =>
      refine Wk_eq (by rw [x_raise]) ?_
      exact Wk_c rfl (ih _ _ _)
    | 15 =>
      refine Wk_eq (by rw [x_raise]) ?_
      exact Wk_ite (Wk_c rfl (ih _ _ _)) (Wk_ite (Wk_ite (Wk_c rfl (ih _ _ _)) (Wk_no _)) (Wk_no _))
    | 16 =>
      refine Wk_eq (by rw [x_raise]) ?_
      exact Wk_c rfl (ih _ _ _)
    | 17 =>
      refine Wk_eq (by rw [x_raise]) ?_
      exact Wk_c rfl (ih _ _ _)
    | 18 =>
      refine Wk_eq (by rw [x_raise]) ?_
      exact Wk_ite (Wk_c rfl (ih _ _ _)) (Wk_so rfl)
    | 19 =>
      refine Wk_eq (by rw [x_raise]) ?_
      exact Wk_c rfl (ih _ _ _)
    | 20 =>
      refine Wk_eq (by rw [x_raise]) ?_
      exact Wk_c rfl (ih _ _ _)
    | 21 =>
      refine Wk_eq (by rw [x_raise]) ?_
      exact Wk_ite (Wk_c rfl (ih _ _ _)) (Wk_ite (Wk_ite (Wk_c rfl (ih _ _ _)) (Wk_no _)) (Wk_no _))
    | 22 =>
      refine Wk_eq (by rw [x_raise]) ?_
      exact Wk_c rfl (ih _ _ _)
    | 23 =>
      refine Wk_eq (by rw [x_raise]) ?_
      exact Wk_ob (Wk_c rfl (wl_signOf _ _ _ _)) (fun _ h180 => Wk_ite (Wk_c h180 (ih _ _ _)) (Wk_ite (Wk_c h180 (ih _ _ _)) (Wk_c h180 (ih _ _ _))))
    | 24 =>
      refine Wk_eq (by rw [x_raise]) ?_
      exact Wk_c rfl (ih _ _ _)
    | 25 =>
      refine Wk_eq (by rw [x_raise]) ?_
      exact Wk_ob (Wk_c rfl (wl_wholeOf _ _ _ _)) (fun _ h181 => Wk_so h181)
    | b + 26 =>
      refine Wk_eq (by rw [x_raise]) (Wk_no _)
theorem wl_compareRows__46__43 : ∀ (k b : Nat) (L : Nat → Int32) (σ : MS), Wk (x_compareRows__46__43 k b L σ) σ.2.1 := by
  intro k
  induction k with
  | zero => intro b L σ; exact Wk_no _
  | succ k ih =>
    intro b L σ
    match b with
    | 0 =>
      refine Wk_eq (by rw [x_compareRows__46__43]) ?_
      exact Wk_c rfl (ih _ _ _)
    | 1 =>
      refine Wk_eq (by rw [x_compareRows__46__43]) ?_
      exact Wk_ite (Wk_c rfl (ih _ _ _)) (Wk_ite (Wk_ite (Wk_ite (Wk_c rfl (ih _ _ _)) (Wk_no _)) (Wk_no _)) (Wk_c rfl (ih _ _ _)))
    | 2 =>
      refine Wk_eq (by rw [x_compareRows__46__43]) ?_
      exact Wk_so rfl
    | b + 3 =>
      refine Wk_eq (by rw [x_compareRows__46__43]) (Wk_no _)
theorem wl_divideRows : ∀ (k b : Nat) (L : Nat → Int32) (σ : MS), Wk (x_divideRows k b L σ) σ.2.1 := by
  intro k
  induction k with
  | zero => intro b L σ; exact Wk_no _
  | succ k ih =>
    intro b L σ
    match b with
    | 0 =>
      refine Wk_eq (by rw [x_divideRows]) ?_
      exact Wk_c rfl (ih _ _ _)
    | 1 =>
      refine Wk_eq (by rw [x_divideRows]) ?_
      exact Wk_c rfl (ih _ _ _)
    | 2 =>
      refine Wk_eq (by rw [x_divideRows]) ?_
      exact Wk_c rfl (ih _ _ _)
    | 3 =>
      refine Wk_eq (by rw [x_divideRows]) ?_
      exact Wk_ite (Wk_c rfl (ih _ _ _)) (Wk_ite (Wk_c rfl (ih _ _ _)) (Wk_no _))
    | 4 =>
      refine Wk_eq (by rw [x_divideRows]) ?_
      exact Wk_c rfl (ih _ _ _)
    | 5 =>
      refine Wk_eq (by rw [x_divideRows]) ?_
      exact Wk_c rfl (ih _ _ _)
    | 6 =>
      refine Wk_eq (by rw [x_divideRows]) ?_
      exact Wk_ite (Wk_c rfl (ih _ _ _)) (Wk_ite (Wk_c rfl (ih _ _ _)) (Wk_no _))
    | 7 =>
      refine Wk_eq (by rw [x_divideRows]) ?_
      exact Wk_ite (Wk_c rfl (ih _ _ _)) (Wk_ite (Wk_ite (Wk_c rfl (ih _ _ _)) (Wk_no _)) (Wk_no _))
    | 8 =>
      refine Wk_eq (by rw [x_divideRows]) ?_
      exact Wk_c rfl (ih _ _ _)
    | 9 =>
      refine Wk_eq (by rw [x_divideRows]) ?_
      exact Wk_ite (Wk_c rfl (ih _ _ _)) (Wk_ite (Wk_c rfl (ih _ _ _)) (Wk_no _))
    | 10 =>
      refine Wk_eq (by rw [x_divideRows]) ?_
      exact Wk_c rfl (ih _ _ _)
    | 11 =>
      refine Wk_eq (by rw [x_divideRows]) ?_
      exact Wk_ob (Wk_c rfl (wl_compareRows__46__43 _ _ _ _)) (fun _ h182 => Wk_ite (Wk_c h182 (ih _ _ _)) (Wk_c h182 (ih _ _ _)))
    | 12 =>
      refine Wk_eq (by rw [x_divideRows]) ?_
      exact Wk_ite (Wk_c rfl (ih _ _ _)) (Wk_ite (Wk_ite (Wk_c rfl (ih _ _ _)) (Wk_ite (Wk_c rfl (ih _ _ _)) (Wk_no _))) (Wk_no _))
    | 13 =>
      refine Wk_eq (by rw [x_divideRows]) ?_
      exact Wk_c rfl (ih _ _ _)
    | 14 =>
      refine Wk_eq (by rw [x_divideRows]) ?_
      exact Wk_ite (Wk_c rfl (ih _ _ _)) (Wk_c rfl (ih _ _ _))
    | 15 =>
      refine Wk_eq (by rw [x_divideRows]) ?_
      exact Wk_c rfl (ih _ _ _)
    | 16 =>
      refine Wk_eq (by rw [x_divideRows]) ?_
      exact Wk_ite (Wk_c rfl (ih _ _ _)) (Wk_no _)
    | 17 =>
      refine Wk_eq (by rw [x_divideRows]) ?_
      exact Wk_c rfl (ih _ _ _)
    | 18 =>
      refine Wk_eq (by rw [x_divideRows]) ?_
      exact Wk_ite (Wk_c rfl (ih _ _ _)) (Wk_ite (Wk_ite (Wk_c rfl (ih _ _ _)) (Wk_c rfl (ih _ _ _))) (Wk_no _))
    | 19 =>
      refine Wk_eq (by rw [x_divideRows]) ?_
      exact Wk_ite (Wk_ite (Wk_c rfl (ih _ _ _)) (Wk_no _)) (Wk_no _)
    | 20 =>
      refine Wk_eq (by rw [x_divideRows]) ?_
      exact Wk_c rfl (ih _ _ _)
    | 21 =>
      refine Wk_eq (by rw [x_divideRows]) ?_
      exact Wk_so rfl
    | b + 22 =>
      refine Wk_eq (by rw [x_divideRows]) (Wk_no _)
theorem wl_divide : ∀ (k b : Nat) (L : Nat → Int32) (σ : MS), Wk (x_divide k b L σ) σ.2.1 := by
  intro k
  induction k with
  | zero => intro b L σ; exact Wk_no _
  | succ k ih =>
    intro b L σ
    match b with
    | 0 =>
      refine Wk_eq (by rw [x_divide]) ?_
      exact Wk_ob (Wk_c rfl (wl_signOf _ _ _ _)) (fun _ h183 => Wk_ite (Wk_ob (Wk_c h183 (wl_fail _ _ _ _)) (fun _ h184 => Wk_so h184)) (Wk_c h183 (ih _ _ _)))
    | 1 =>
      refine Wk_eq (by rw [x_divide]) ?_
      exact Wk_ob (Wk_c rfl (wl_loadA _ _ _ _)) (fun _ h185 => Wk_ob (Wk_c h185 (wl_loadB _ _ _ _)) (fun _ h186 => Wk_ob (Wk_c h186 (wl_divideRows _ _ _ _)) (fun _ h187 => Wk_ob (Wk_c h187 (wl_signOf _ _ _ _)) (fun _ h188 => Wk_ite (Wk_c h188 (ih _ _ _)) (Wk_ite (Wk_c h188 (ih _ _ _)) (Wk_c h188 (ih _ _ _)))))))
    | 2 =>
      refine Wk_eq (by rw [x_divide]) ?_
      exact Wk_c rfl (ih _ _ _)
    | 3 =>
      refine Wk_eq (by rw [x_divide]) ?_
      exact Wk_ite (Wk_c rfl (ih _ _ _)) (Wk_ite (Wk_c rfl (ih _ _ _)) (Wk_c rfl (ih _ _ _)))
    | 4 =>
      refine Wk_eq (by rw [x_divide]) ?_
      exact Wk_c rfl (ih _ _ _)
    | 5 =>
      refine Wk_eq (by rw [x_divide]) ?_
      exact Wk_c rfl (ih _ _ _)
    | 6 =>
      refine Wk_eq (by rw [x_divide]) ?_
      exact Wk_c rfl (ih _ _ _)
    | 7 =>
      refine Wk_eq (by rw [x_divide]) ?_
      exact Wk_ite (Wk_c rfl (ih _ _ _)) (Wk_ite (Wk_c rfl (ih _ _ _)) (Wk_ite (Wk_c rfl (ih _ _ _)) (Wk_no _)))
    | 8 =>
      refine Wk_eq (by rw [x_divide]) ?_
      exact Wk_c rfl (ih _ _ _)
    | 9 =>
      refine Wk_eq (by rw [x_divide]) ?_
      exact Wk_ite (Wk_c rfl (ih _ _ _)) (Wk_ite (Wk_c rfl (ih _ _ _)) (Wk_no _))
    | 10 =>
      refine Wk_eq (by rw [x_divide]) ?_
      exact Wk_c rfl (ih _ _ _)
    | 11 =>
      refine Wk_eq (by rw [x_divide]) ?_
      exact Wk_ite (Wk_c rfl (ih _ _ _)) (Wk_ite (Wk_c rfl (ih _ _ _)) (Wk_c rfl (ih _ _ _)))
    | 12 =>
      refine Wk_eq (by rw [x_divide]) ?_
      exact Wk_c rfl (ih _ _ _)
    | 13 =>
      refine Wk_eq (by rw [x_divide]) ?_
      exact Wk_ite (Wk_c rfl (ih _ _ _)) (Wk_no _)
    | 14 =>
      refine Wk_eq (by rw [x_divide]) ?_
      exact Wk_c rfl (ih _ _ _)
    | 15 =>
      refine Wk_eq (by rw [x_divide]) ?_
      exact Wk_ob (Wk_c rfl (wl_wholeOf _ _ _ _)) (fun _ h189 => Wk_so h189)
    | 16 =>
      refine Wk_eq (by rw [x_divide]) ?_
      exact Wk_c rfl (ih _ _ _)
    | 17 =>
      refine Wk_eq (by rw [x_divide]) ?_
      exact Wk_ite (Wk_c rfl (ih _ _ _)) (Wk_c rfl (ih _ _ _))
    | 18 =>
      refine Wk_eq (by rw [x_divide]) ?_
      exact Wk_c rfl (ih _ _ _)
    | 19 =>
      refine Wk_eq (by rw [x_divide]) ?_
      exact Wk_c rfl (ih _ _ _)
    | 20 =>
      refine Wk_eq (by rw [x_divide]) ?_
      exact Wk_ite (Wk_c rfl (ih _ _ _)) (Wk_ite (Wk_ite (Wk_c rfl (ih _ _ _)) (Wk_no _)) (Wk_no _))
    | 21 =>
      refine Wk_eq (by rw [x_divide]) ?_
      exact Wk_c rfl (ih _ _ _)
    | 22 =>
      refine Wk_eq (by rw [x_divide]) ?_
      exact Wk_ite (Wk_c rfl (ih _ _ _)) (Wk_ite (Wk_c rfl (ih _ _ _)) (Wk_no _))
    | 23 =>
      refine Wk_eq (by rw [x_divide]) ?_
      exact Wk_c rfl (ih _ _ _)
    | 24 =>
      refine Wk_eq (by rw [x_divide]) ?_
      exact Wk_ob (Wk_c rfl (wl_signOf _ _ _ _)) (fun _ h190 => Wk_ob (Wk_c h190 (wl_signOf _ _ _ _)) (fun _ h191 => Wk_ob (Wk_c h191 (wl_wholeOf _ _ _ _)) (fun _ h192 => Wk_so h192)))
    | b + 25 =>
      refine Wk_eq (by rw [x_divide]) (Wk_no _)
theorem wl_isIn : ∀ (k b : Nat) (L : Nat → Int32) (σ : MS), Wk (x_isIn k b L σ) σ.2.1 := by
  intro k
  induction k with
  | zero => intro b L σ; exact Wk_no _
  | succ k ih =>
    intro b L σ
    match b with
    | 0 =>
      refine Wk_eq (by rw [x_isIn]) ?_
      exact Wk_ob (Wk_c rfl (wl_kind _ _ _ _)) (fun _ h193 => Wk_ite (Wk_ite (Wk_c h193 (ih _ _ _)) (Wk_ob (Wk_c h193 (wl_has _ _ _ _)) (fun _ h194 => Wk_ite (Wk_c h194 (ih _ _ _)) (Wk_c h194 (ih _ _ _))))) (Wk_c h193 (ih _ _ _)))
    | 1 =>
      refine Wk_eq (by rw [x_isIn]) ?_
      exact Wk_c rfl (ih _ _ _)
    | 2 =>
      refine Wk_eq (by rw [x_isIn]) ?_
      exact Wk_ob (Wk_c rfl (wl_truth _ _ _ _)) (fun _ h195 => Wk_so h195)
    | 3 =>
      refine Wk_eq (by rw [x_isIn]) ?_
      exact Wk_ite (Wk_c rfl (ih _ _ _)) (Wk_c rfl (ih _ _ _))
    | 4 =>
      refine Wk_eq (by rw [x_isIn]) ?_
      exact Wk_ite (Wk_ite (Wk_c rfl (ih _ _ _)) (Wk_ite (Wk_c rfl (ih _ _ _)) (Wk_ite (Wk_ite (Wk_ob (Wk_c rfl (wl_compare _ _ _ _)) (fun _ h196 => Wk_ite (Wk_c h196 (ih _ _ _)) (Wk_c h196 (ih _ _ _)))) (Wk_no _)) (Wk_c rfl (ih _ _ _))))) (Wk_no _)
    | 5 =>
      refine Wk_eq (by rw [x_isIn]) ?_
      exact Wk_c rfl (ih _ _ _)
    | 6 =>
      refine Wk_eq (by rw [x_isIn]) ?_
      exact Wk_c rfl (ih _ _ _)
    | 7 =>
      refine Wk_eq (by rw [x_isIn]) ?_
      exact Wk_c rfl (ih _ _ _)
    | 8 =>
      refine Wk_eq (by rw [x_isIn]) ?_
      exact Wk_ob (Wk_c rfl (wl_truth _ _ _ _)) (fun _ h197 => Wk_so h197)
    | 9 =>
      refine Wk_eq (by rw [x_isIn]) ?_
      exact Wk_ite (Wk_ob (Wk_c rfl (wl_kind _ _ _ _)) (fun _ h198 => Wk_ite (Wk_c h198 (ih _ _ _)) (Wk_c h198 (ih _ _ _)))) (Wk_c rfl (ih _ _ _))
    | 10 =>
      refine Wk_eq (by rw [x_isIn]) ?_
      exact Wk_ob (Wk_c rfl (wl_wrongKind _ _ _ _)) (fun _ h199 => Wk_so h199)
    | 11 =>
      refine Wk_eq (by rw [x_isIn]) ?_
      exact Wk_c rfl (ih _ _ _)
    | 12 =>
      refine Wk_eq (by rw [x_isIn]) ?_
      exact Wk_ite (Wk_ite (Wk_ite (Wk_c rfl (ih _ _ _)) (Wk_ite (Wk_c rfl (ih _ _ _)) (Wk_c rfl (ih _ _ _)))) (Wk_no _)) (Wk_no _)
    | 13 =>
      refine Wk_eq (by rw [x_isIn]) ?_
      exact Wk_ite (Wk_ite (Wk_c rfl (ih _ _ _)) (Wk_ite (Wk_c rfl (ih _ _ _)) (Wk_ite (Wk_ite (Wk_ite (Wk_c rfl (ih _ _ _)) (Wk_c rfl (ih _ _ _))) (Wk_no _)) (Wk_no _)))) (Wk_no _)
    | 14 =>
      refine Wk_eq (by rw [x_isIn]) ?_
      exact Wk_c rfl (ih _ _ _)
    | 15 =>
      refine Wk_eq (by rw [x_isIn]) ?_
      exact Wk_c rfl (ih _ _ _)
    | 16 =>
      refine Wk_eq (by rw [x_isIn]) ?_
      exact Wk_c rfl (ih _ _ _)
    | 17 =>
      refine Wk_eq (by rw [x_isIn]) ?_
      exact Wk_ob (Wk_c rfl (wl_truth _ _ _ _)) (fun _ h200 => Wk_so h200)
    | b + 18 =>
      refine Wk_eq (by rw [x_isIn]) (Wk_no _)
theorem wl_isSubset : ∀ (k b : Nat) (L : Nat → Int32) (σ : MS), Wk (x_isSubset k b L σ) σ.2.1 := by
  intro k
  induction k with
  | zero => intro b L σ; exact Wk_no _
  | succ k ih =>
    intro b L σ
    match b with
    | 0 =>
      refine Wk_eq (by rw [x_isSubset]) ?_
      exact Wk_c rfl (ih _ _ _)
    | 1 =>
      refine Wk_eq (by rw [x_isSubset]) ?_
      exact Wk_ite (Wk_ite (Wk_c rfl (ih _ _ _)) (Wk_ite (Wk_c rfl (ih _ _ _)) (Wk_ite (Wk_ob (Wk_c rfl (wl_has _ _ _ _)) (fun _ h201 => Wk_c h201 (ih _ _ _))) (Wk_no _)))) (Wk_no _)
    | 2 =>
      refine Wk_eq (by rw [x_isSubset]) ?_
      exact Wk_ite (Wk_so rfl) (Wk_no _)
    | b + 3 =>
      refine Wk_eq (by rw [x_isSubset]) (Wk_no _)
theorem wl_operate : ∀ (k b : Nat) (L : Nat → Int32) (σ : MS), Wk (x_operate k b L σ) σ.2.1 := by
  intro k
  induction k with
  | zero => intro b L σ; exact Wk_no _
  | succ k ih =>
    intro b L σ
    match b with
    | 0 =>
      refine Wk_eq (by rw [x_operate]) ?_
      exact Wk_ob (Wk_c rfl (wl_kind _ _ _ _)) (fun _ h202 => Wk_ob (Wk_c h202 (wl_kind _ _ _ _)) (fun _ h203 => Wk_ite (Wk_ite (Wk_c h203 (ih _ _ _)) (Wk_c h203 (ih _ _ _))) (Wk_c h203 (ih _ _ _))))
    | 1 =>
      refine Wk_eq (by rw [x_operate]) ?_
      exact Wk_c rfl (ih _ _ _)
    | 2 =>
      refine Wk_eq (by rw [x_operate]) ?_
      exact Wk_ite (Wk_c rfl (ih _ _ _)) (Wk_ite (Wk_c rfl (ih _ _ _)) (Wk_ite (Wk_c rfl (ih _ _ _)) (Wk_ite (Wk_c rfl (ih _ _ _)) (Wk_ite (Wk_c rfl (ih _ _ _)) (Wk_ite (Wk_c rfl (ih _ _ _)) (Wk_ite (Wk_c rfl (ih _ _ _)) (Wk_ite (Wk_c rfl (ih _ _ _)) (Wk_ite (Wk_c rfl (ih _ _ _)) (Wk_ite (Wk_c rfl (ih _ _ _)) (Wk_ite (Wk_c rfl (ih _ _ _)) (Wk_c rfl (ih _ _ _))))))))))))
    | 3 =>
      refine Wk_eq (by rw [x_operate]) ?_
      exact Wk_ob (Wk_c rfl (wl_plus _ _ _ _)) (fun _ h204 => Wk_so h204)
    | 4 =>
      refine Wk_eq (by rw [x_operate]) ?_
      exact Wk_ite (Wk_c rfl (ih _ _ _)) (Wk_ob (Wk_c rfl (wl_add _ _ _ _)) (fun _ h205 => Wk_so h205))
    | 5 =>
      refine Wk_eq (by rw [x_operate]) ?_
      exact Wk_ite (Wk_ite (Wk_ob (Wk_c rfl (wl_sift _ _ _ _)) (fun _ h206 => Wk_c h206 (ih _ _ _))) (Wk_c rfl (ih _ _ _))) (Wk_c rfl (ih _ _ _))
    | 6 =>
      refine Wk_eq (by rw [x_operate]) ?_
      exact Wk_ob (Wk_c rfl (wl_wrongKind _ _ _ _)) (fun _ h207 => Wk_c h207 (ih _ _ _))
    | 7 =>
      refine Wk_eq (by rw [x_operate]) ?_
      exact Wk_so rfl
    | 8 =>
      refine Wk_eq (by rw [x_operate]) ?_
      exact Wk_ite (Wk_c rfl (ih _ _ _)) (Wk_ob (Wk_c rfl (wl_multiply _ _ _ _ _)) (fun _ h208 => Wk_so h208))
    | 9 =>
      refine Wk_eq (by rw [x_operate]) ?_
      exact Wk_ite (Wk_ite (Wk_ob (Wk_c rfl (wl_sift _ _ _ _)) (fun _ h209 => Wk_so h209)) (Wk_c rfl (ih _ _ _))) (Wk_c rfl (ih _ _ _))
    | 10 =>
      refine Wk_eq (by rw [x_operate]) ?_
      exact Wk_ite (Wk_c rfl (ih _ _ _)) (Wk_ite (Wk_c rfl (ih _ _ _)) (Wk_c rfl (ih _ _ _)))
    | 11 =>
      refine Wk_eq (by rw [x_operate]) ?_
      exact Wk_ite (Wk_ob (Wk_c rfl (wl_repeat _ _ _ _)) (fun _ h210 => Wk_c h210 (ih _ _ _))) (Wk_c rfl (ih _ _ _))
    | 12 =>
      refine Wk_eq (by rw [x_operate]) ?_
      exact Wk_ob (Wk_c rfl (wl_wrongKind _ _ _ _)) (fun _ h211 => Wk_c h211 (ih _ _ _))
    | 13 =>
      refine Wk_eq (by rw [x_operate]) ?_
      exact Wk_so rfl
    | 14 =>
      refine Wk_eq (by rw [x_operate]) ?_
      exact Wk_ite (Wk_c rfl (ih _ _ _)) (Wk_ob (Wk_c rfl (wl_raise _ _ _ _)) (fun _ h212 => Wk_c h212 (ih _ _ _)))
    | 15 =>
      refine Wk_eq (by rw [x_operate]) ?_
      exact Wk_ob (Wk_c rfl (wl_wrongKind _ _ _ _)) (fun _ h213 => Wk_c h213 (ih _ _ _))
    | 16 =>
      refine Wk_eq (by rw [x_operate]) ?_
      exact Wk_so rfl
    | 17 =>
      refine Wk_eq (by rw [x_operate]) ?_
      exact Wk_ob (Wk_c rfl (wl_compare _ _ _ _)) (fun _ h214 => Wk_ite (Wk_c h214 (ih _ _ _)) (Wk_c h214 (ih _ _ _)))
    | 18 =>
      refine Wk_eq (by rw [x_operate]) ?_
      exact Wk_c rfl (ih _ _ _)
    | 19 =>
      refine Wk_eq (by rw [x_operate]) ?_
      exact Wk_ob (Wk_c rfl (wl_truth _ _ _ _)) (fun _ h215 => Wk_so h215)
    | 20 =>
      refine Wk_eq (by rw [x_operate]) ?_
      exact Wk_ob (Wk_c rfl (wl_compare _ _ _ _)) (fun _ h216 => Wk_ite (Wk_c h216 (ih _ _ _)) (Wk_c h216 (ih _ _ _)))
    | 21 =>
      refine Wk_eq (by rw [x_operate]) ?_
      exact Wk_c rfl (ih _ _ _)
    | 22 =>
      refine Wk_eq (by rw [x_operate]) ?_
      exact Wk_ob (Wk_c rfl (wl_truth _ _ _ _)) (fun _ h217 => Wk_so h217)
    | 23 =>
      refine Wk_eq (by rw [x_operate]) ?_
      exact Wk_ite (Wk_c rfl (ih _ _ _)) (Wk_ob (Wk_c rfl (wl_divide _ _ _ _)) (fun _ h218 => Wk_c h218 (ih _ _ _)))
    | 24 =>
      refine Wk_eq (by rw [x_operate]) ?_
      exact Wk_ob (Wk_c rfl (wl_wrongKind _ _ _ _)) (fun _ h219 => Wk_c h219 (ih _ _ _))
    | 25 =>
      refine Wk_eq (by rw [x_operate]) ?_
      exact Wk_so rfl
    | 26 =>
      refine Wk_eq (by rw [x_operate]) ?_
      exact Wk_ite (Wk_c rfl (ih _ _ _)) (Wk_ob (Wk_c rfl (wl_divide _ _ _ _)) (fun _ h220 => Wk_c h220 (ih _ _ _)))
    | 27 =>
      refine Wk_eq (by rw [x_operate]) ?_
      exact Wk_ob (Wk_c rfl (wl_wrongKind _ _ _ _)) (fun _ h221 => Wk_c h221 (ih _ _ _))
    | 28 =>
      refine Wk_eq (by rw [x_operate]) ?_
      exact Wk_so rfl
    | 29 =>
      refine Wk_eq (by rw [x_operate]) ?_
      exact Wk_ob (Wk_c rfl (wl_isIn _ _ _ _)) (fun _ h222 => Wk_so h222)
    | 30 =>
      refine Wk_eq (by rw [x_operate]) ?_
      exact Wk_ob (Wk_c rfl (wl_isIn _ _ _ _)) (fun _ h223 => Wk_ite (Wk_c h223 (ih _ _ _)) (Wk_c h223 (ih _ _ _)))
    | 31 =>
      refine Wk_eq (by rw [x_operate]) ?_
      exact Wk_c rfl (ih _ _ _)
    | 32 =>
      refine Wk_eq (by rw [x_operate]) ?_
      exact Wk_ob (Wk_c rfl (wl_truth _ _ _ _)) (fun _ h224 => Wk_so h224)
    | 33 =>
      refine Wk_eq (by rw [x_operate]) ?_
      exact Wk_ite (Wk_ite (Wk_ob (Wk_c rfl (wl_isSubset _ _ _ _)) (fun _ h225 => Wk_ob (Wk_c h225 (wl_truth _ _ _ _)) (fun _ h226 => Wk_c h226 (ih _ _ _)))) (Wk_c rfl (ih _ _ _))) (Wk_c rfl (ih _ _ _))
    | 34 =>
      refine Wk_eq (by rw [x_operate]) ?_
      exact Wk_ob (Wk_c rfl (wl_wrongKind _ _ _ _)) (fun _ h227 => Wk_c h227 (ih _ _ _))
    | 35 =>
      refine Wk_eq (by rw [x_operate]) ?_
      exact Wk_so rfl
    | 36 =>
      refine Wk_eq (by rw [x_operate]) ?_
      exact Wk_ite (Wk_ite (Wk_ite (Wk_c rfl (ih _ _ _)) (Wk_c rfl (ih _ _ _))) (Wk_c rfl (ih _ _ _))) (Wk_c rfl (ih _ _ _))
    | 37 =>
      refine Wk_eq (by rw [x_operate]) ?_
      exact Wk_ob (Wk_c rfl (wl_wrongKind _ _ _ _)) (fun _ h228 => Wk_so h228)
    | 38 =>
      refine Wk_eq (by rw [x_operate]) ?_
      exact Wk_ob (Wk_c rfl (wl_compare _ _ _ _)) (fun _ h229 => Wk_ite (Wk_ite (Wk_c h229 (ih _ _ _)) (Wk_c h229 (ih _ _ _))) (Wk_c h229 (ih _ _ _)))
    | 39 =>
      refine Wk_eq (by rw [x_operate]) ?_
      exact Wk_c rfl (ih _ _ _)
    | 40 =>
      refine Wk_eq (by rw [x_operate]) ?_
      exact Wk_ite (Wk_ite (Wk_c rfl (ih _ _ _)) (Wk_c rfl (ih _ _ _))) (Wk_c rfl (ih _ _ _))
    | 41 =>
      refine Wk_eq (by rw [x_operate]) ?_
      exact Wk_c rfl (ih _ _ _)
    | 42 =>
      refine Wk_eq (by rw [x_operate]) ?_
      exact Wk_ite (Wk_ite (Wk_c rfl (ih _ _ _)) (Wk_c rfl (ih _ _ _))) (Wk_c rfl (ih _ _ _))
    | 43 =>
      refine Wk_eq (by rw [x_operate]) ?_
      exact Wk_c rfl (ih _ _ _)
    | 44 =>
      refine Wk_eq (by rw [x_operate]) ?_
      exact Wk_ite (Wk_c rfl (ih _ _ _)) (Wk_c rfl (ih _ _ _))
    | 45 =>
      refine Wk_eq (by rw [x_operate]) ?_
      exact Wk_c rfl (ih _ _ _)
    | 46 =>
      refine Wk_eq (by rw [x_operate]) ?_
      exact Wk_ob (Wk_c rfl (wl_truth _ _ _ _)) (fun _ h230 => Wk_so h230)
    | b + 47 =>
      refine Wk_eq (by rw [x_operate]) (Wk_no _)
theorem wl_reduce : ∀ (k b : Nat) (L : Nat → Int32) (σ : MS), Wk (x_reduce k b L σ) σ.2.1 := by
  intro k
  induction k with
  | zero => intro b L σ; exact Wk_no _
  | succ k ih =>
    intro b L σ
    match b with
    | 0 =>
      refine Wk_eq (by rw [x_reduce]) ?_
      exact Wk_ob (Wk_c rfl (wl_kind _ _ _ _)) (fun _ h231 => Wk_ite (Wk_c h231 (ih _ _ _)) (Wk_ite (Wk_c h231 (ih _ _ _)) (Wk_ob (Wk_c h231 (wl_wrongKind _ _ _ _)) (fun _ h232 => Wk_so h232))))
    | 1 =>
      refine Wk_eq (by rw [x_reduce]) ?_
      exact Wk_ite (Wk_ite (Wk_so rfl) (Wk_c rfl (ih _ _ _))) (Wk_no _)
    | 2 =>
      refine Wk_eq (by rw [x_reduce]) ?_
      exact Wk_ob (Wk_c rfl (wl_push _ _ _ _)) (fun _ h233 => Wk_ite (Wk_ob (Wk_c h233 (wl_push _ _ _ _)) (fun _ h234 => Wk_c h234 (ih _ _ _))) (Wk_no _))
    | 3 =>
      refine Wk_eq (by rw [x_reduce]) ?_
      exact Wk_ite (Wk_c rfl (ih _ _ _)) (Wk_ite (Wk_ob (Wk_c rfl (wl_sweep _ _ _ _)) (fun _ h235 => Wk_ite (Wk_ite (Wk_ite (Wk_ite (Wk_c h235 (ih _ _ _)) (Wk_ite (Wk_c h235 (ih _ _ _)) (Wk_c h235 (ih _ _ _)))) (Wk_no _)) (Wk_no _)) (Wk_no _))) (Wk_c rfl (ih _ _ _)))
    | 4 =>
      refine Wk_eq (by rw [x_reduce]) ?_
      exact Wk_ob (Wk_c rfl (wl_operate _ _ _ _)) (fun _ h236 => Wk_ob (Wk_c h236 (wl_answer _ _ _ _)) (fun _ h237 => Wk_c h237 (ih _ _ _)))
    | 5 =>
      refine Wk_eq (by rw [x_reduce]) ?_
      exact Wk_ob (Wk_c rfl (wl_operate _ _ _ _)) (fun _ h238 => Wk_ite (Wk_c h238 (ih _ _ _)) (Wk_c h238 (ih _ _ _)))
    | 6 =>
      refine Wk_eq (by rw [x_reduce]) ?_
      exact Wk_c rfl (ih _ _ _)
    | 7 =>
      refine Wk_eq (by rw [x_reduce]) ?_
      exact Wk_ite (Wk_ite (Wk_c rfl (ih _ _ _)) (Wk_ite (Wk_c rfl (ih _ _ _)) (Wk_c rfl (ih _ _ _)))) (Wk_c rfl (ih _ _ _))
    | 8 =>
      refine Wk_eq (by rw [x_reduce]) ?_
      exact Wk_ob (Wk_c rfl (wl_operate _ _ _ _)) (fun _ h239 => Wk_ite (Wk_c h239 (ih _ _ _)) (Wk_c h239 (ih _ _ _)))
    | 9 =>
      refine Wk_eq (by rw [x_reduce]) ?_
      exact Wk_c rfl (ih _ _ _)
    | 10 =>
      refine Wk_eq (by rw [x_reduce]) ?_
      exact Wk_c rfl (ih _ _ _)
    | 11 =>
      refine Wk_eq (by rw [x_reduce]) ?_
      exact Wk_c rfl (ih _ _ _)
    | 12 =>
      refine Wk_eq (by rw [x_reduce]) ?_
      exact Wk_ite (Wk_c rfl (ih _ _ _)) (Wk_no _)
    | 13 =>
      refine Wk_eq (by rw [x_reduce]) ?_
      exact Wk_c rfl (ih _ _ _)
    | 14 =>
      refine Wk_eq (by rw [x_reduce]) ?_
      exact Wk_c rfl (ih _ _ _)
    | 15 =>
      refine Wk_eq (by rw [x_reduce]) ?_
      exact Wk_ite (Wk_ite (Wk_c rfl (ih _ _ _)) (Wk_no _)) (Wk_c rfl (ih _ _ _))
    | 16 =>
      refine Wk_eq (by rw [x_reduce]) ?_
      exact Wk_c rfl (ih _ _ _)
    | 17 =>
      refine Wk_eq (by rw [x_reduce]) ?_
      exact Wk_so rfl
    | b + 18 =>
      refine Wk_eq (by rw [x_reduce]) (Wk_no _)
theorem wl_range : ∀ (k b : Nat) (L : Nat → Int32) (σ : MS), Wk (x_range k b L σ) σ.2.1 := by
  intro k
  induction k with
  | zero => intro b L σ; exact Wk_no _
  | succ k ih =>
    intro b L σ
    match b with
    | 0 =>
      refine Wk_eq (by rw [x_range]) ?_
      exact Wk_ob (Wk_c rfl (wl_pop _ _ _ _)) (fun _ h240 => Wk_ite (Wk_c h240 (ih _ _ _)) (Wk_ob (Wk_c h240 (wl_pop _ _ _ _)) (fun _ h241 => Wk_c h241 (ih _ _ _))))
    | 1 =>
      refine Wk_eq (by rw [x_range]) ?_
      exact Wk_c rfl (ih _ _ _)
    | 2 =>
      refine Wk_eq (by rw [x_range]) ?_
      exact Wk_ob (Wk_c rfl (wl_pop _ _ _ _)) (fun _ h242 => Wk_ob (Wk_c h242 (wl_kind _ _ _ _)) (fun _ h243 => Wk_ite (Wk_ob (Wk_c h243 (wl_kind _ _ _ _)) (fun _ h244 => Wk_ite (Wk_ite (Wk_c h244 (ih _ _ _)) (Wk_ob (Wk_c h244 (wl_kind _ _ _ _)) (fun _ h245 => Wk_ite (Wk_c h245 (ih _ _ _)) (Wk_c h245 (ih _ _ _))))) (Wk_c h244 (ih _ _ _)))) (Wk_c h243 (ih _ _ _))))
    | 3 =>
      refine Wk_eq (by rw [x_range]) ?_
      exact Wk_ob (Wk_c rfl (wl_wrongKind _ _ _ _)) (fun _ h246 => Wk_so h246)
    | 4 =>
      refine Wk_eq (by rw [x_range]) ?_
      exact Wk_ite (Wk_c rfl (ih _ _ _)) (Wk_ob (Wk_c rfl (wl_add _ _ _ _)) (fun _ h247 => Wk_c h247 (ih _ _ _)))
    | 5 =>
      refine Wk_eq (by rw [x_range]) ?_
      exact Wk_ob (Wk_c rfl (wl_small _ _ _ _)) (fun _ h248 => Wk_c h248 (ih _ _ _))
    | 6 =>
      refine Wk_eq (by rw [x_range]) ?_
      exact Wk_ite (Wk_c rfl (ih _ _ _)) (Wk_c rfl (ih _ _ _))
    | 7 =>
      refine Wk_eq (by rw [x_range]) ?_
      exact Wk_c rfl (ih _ _ _)
    | 8 =>
      refine Wk_eq (by rw [x_range]) ?_
      exact Wk_c rfl (ih _ _ _)
    | 9 =>
      refine Wk_eq (by rw [x_range]) ?_
      exact Wk_ite (Wk_c rfl (ih _ _ _)) (Wk_ob (Wk_c rfl (wl_compareWholes _ _ _ _)) (fun _ h249 => Wk_ite (Wk_c h249 (ih _ _ _)) (Wk_c h249 (ih _ _ _))))
    | 10 =>
      refine Wk_eq (by rw [x_range]) ?_
      exact Wk_c rfl (ih _ _ _)
    | 11 =>
      refine Wk_eq (by rw [x_range]) ?_
      exact Wk_ob (Wk_c rfl (wl_signOf _ _ _ _)) (fun _ h250 => Wk_c h250 (ih _ _ _))
    | 12 =>
      refine Wk_eq (by rw [x_range]) ?_
      exact Wk_ite (Wk_c rfl (ih _ _ _)) (Wk_c rfl (ih _ _ _))
    | 13 =>
      refine Wk_eq (by rw [x_range]) ?_
      exact Wk_c rfl (ih _ _ _)
    | 14 =>
      refine Wk_eq (by rw [x_range]) ?_
      exact Wk_c rfl (ih _ _ _)
    | 15 =>
      refine Wk_eq (by rw [x_range]) ?_
      exact Wk_ite (Wk_ite (Wk_c rfl (ih _ _ _)) (Wk_ite (Wk_c rfl (ih _ _ _)) (Wk_ob (Wk_c rfl (wl_compareWholes _ _ _ _)) (fun _ h251 => Wk_ite (Wk_c h251 (ih _ _ _)) (Wk_c h251 (ih _ _ _)))))) (Wk_c rfl (ih _ _ _))
    | 16 =>
      refine Wk_eq (by rw [x_range]) ?_
      exact Wk_ob (Wk_c rfl (wl_compareWholes _ _ _ _)) (fun _ h252 => Wk_ite (Wk_c h252 (ih _ _ _)) (Wk_c h252 (ih _ _ _)))
    | 17 =>
      refine Wk_eq (by rw [x_range]) ?_
      exact Wk_ob (Wk_c rfl (wl_push _ _ _ _)) (fun _ h253 => Wk_ite (Wk_c h253 (ih _ _ _)) (Wk_ob (Wk_c h253 (wl_fail _ _ _ _)) (fun _ h254 => Wk_c h254 (ih _ _ _))))
    | 18 =>
      refine Wk_eq (by rw [x_range]) ?_
      exact Wk_ite (Wk_c rfl (ih _ _ _)) (Wk_ite (Wk_c rfl (ih _ _ _)) (Wk_c rfl (ih _ _ _)))
    | 19 =>
      refine Wk_eq (by rw [x_range]) ?_
      exact Wk_c rfl (ih _ _ _)
    | 20 =>
      refine Wk_eq (by rw [x_range]) ?_
      exact Wk_c rfl (ih _ _ _)
    | 21 =>
      refine Wk_eq (by rw [x_range]) ?_
      exact Wk_ob (Wk_c rfl (wl_add _ _ _ _)) (fun _ h255 => Wk_ite (Wk_c h255 (ih _ _ _)) (Wk_c h255 (ih _ _ _)))
    | 22 =>
      refine Wk_eq (by rw [x_range]) ?_
      exact Wk_c rfl (ih _ _ _)
    | 23 =>
      refine Wk_eq (by rw [x_range]) ?_
      exact Wk_c rfl (ih _ _ _)
    | 24 =>
      refine Wk_eq (by rw [x_range]) ?_
      exact Wk_ite (Wk_c rfl (ih _ _ _)) (Wk_so rfl)
    | 25 =>
      refine Wk_eq (by rw [x_range]) ?_
      exact Wk_ite (Wk_c rfl (ih _ _ _)) (Wk_ob (Wk_c rfl (wl_setOf _ _ _ _)) (fun _ h256 => Wk_c h256 (ih _ _ _)))
    | 26 =>
      refine Wk_eq (by rw [x_range]) ?_
      exact Wk_ob (Wk_c rfl (wl_tupleOf _ _ _ _)) (fun _ h257 => Wk_c h257 (ih _ _ _))
    | 27 =>
      refine Wk_eq (by rw [x_range]) ?_
      exact Wk_so rfl
    | b + 28 =>
      refine Wk_eq (by rw [x_range]) (Wk_no _)
theorem wl_isOver : ∀ (k b : Nat) (L : Nat → Int32) (σ : MS), Wk (x_isOver k b L σ) σ.2.1 := by
  intro k
  induction k with
  | zero => intro b L σ; exact Wk_no _
  | succ k ih =>
    intro b L σ
    match b with
    | 0 =>
      refine Wk_eq (by rw [x_isOver]) ?_
      exact Wk_ite (Wk_c rfl (ih _ _ _)) (Wk_ite (Wk_c rfl (ih _ _ _)) (Wk_ite (Wk_c rfl (ih _ _ _)) (Wk_ite (Wk_c rfl (ih _ _ _)) (Wk_ite (Wk_c rfl (ih _ _ _)) (Wk_ite (Wk_c rfl (ih _ _ _)) (Wk_ite (Wk_c rfl (ih _ _ _)) (Wk_c rfl (ih _ _ _))))))))
    | 1 =>
      refine Wk_eq (by rw [x_isOver]) ?_
      exact Wk_c rfl (ih _ _ _)
    | 2 =>
      refine Wk_eq (by rw [x_isOver]) ?_
      exact Wk_c rfl (ih _ _ _)
    | 3 =>
      refine Wk_eq (by rw [x_isOver]) ?_
      exact Wk_ite (Wk_so rfl) (Wk_no _)
    | b + 4 =>
      refine Wk_eq (by rw [x_isOver]) (Wk_no _)
theorem wl_bindOne : ∀ (k b : Nat) (L : Nat → Int32) (σ : MS), Wk (x_bindOne k b L σ) σ.2.1 := by
  intro k
  induction k with
  | zero => intro b L σ; exact Wk_no _
  | succ k ih =>
    intro b L σ
    match b with
    | 0 =>
      refine Wk_eq (by rw [x_bindOne]) ?_
      exact Wk_ite (Wk_ite (Wk_ite (Wk_ite (Wk_c rfl (ih _ _ _)) (Wk_no _)) (Wk_no _)) (Wk_c rfl (ih _ _ _))) (Wk_no _)
    | 1 =>
      refine Wk_eq (by rw [x_bindOne]) ?_
      exact Wk_ite (Wk_c rfl (ih _ _ _)) (Wk_ite (Wk_ite (Wk_c rfl (ih _ _ _)) (Wk_no _)) (Wk_no _))
    | 2 =>
      refine Wk_eq (by rw [x_bindOne]) ?_
      exact Wk_ite (Wk_ite (Wk_ite (Wk_c rfl (ih _ _ _)) (Wk_no _)) (Wk_no _)) (Wk_no _)
    | 3 =>
      refine Wk_eq (by rw [x_bindOne]) ?_
      exact Wk_so rfl
    | b + 4 =>
      refine Wk_eq (by rw [x_bindOne]) (Wk_no _)
theorem wl_clear : ∀ (k b : Nat) (L : Nat → Int32) (σ : MS), Wk (x_clear k b L σ) σ.2.1 := by
  intro k
  induction k with
  | zero => intro b L σ; exact Wk_no _
  | succ k ih =>
    intro b L σ
    match b with
    | 0 =>
      refine Wk_eq (by rw [x_clear]) ?_
      exact Wk_c rfl (ih _ _ _)
    | 1 =>
      refine Wk_eq (by rw [x_clear]) ?_
      exact Wk_ite (Wk_c rfl (ih _ _ _)) (Wk_ite (Wk_c rfl (ih _ _ _)) (Wk_no _))
    | 2 =>
      refine Wk_eq (by rw [x_clear]) ?_
      exact Wk_ite (Wk_c rfl (ih _ _ _)) (Wk_ob (Wk_c rfl (wl_bindOne _ _ _ _)) (fun _ h258 => Wk_ite (Wk_c h258 (ih _ _ _)) (Wk_no _)))
    | 3 =>
      refine Wk_eq (by rw [x_clear]) ?_
      exact Wk_ite (Wk_c rfl (ih _ _ _)) (Wk_no _)
    | 4 =>
      refine Wk_eq (by rw [x_clear]) ?_
      exact Wk_so rfl
    | b + 5 =>
      refine Wk_eq (by rw [x_clear]) (Wk_no _)
theorem wl_bind : ∀ (k b : Nat) (L : Nat → Int32) (σ : MS), Wk (x_bind k b L σ) σ.2.1 := by
  intro k
  induction k with
  | zero => intro b L σ; exact Wk_no _
  | succ k ih =>
    intro b L σ
    match b with
    | 0 =>
      refine Wk_eq (by rw [x_bind]) ?_
      exact Wk_ite (Wk_ite (Wk_ite (Wk_ob (Wk_c rfl (wl_bindOne _ _ _ _)) (fun _ h259 => Wk_so h259)) (Wk_no _)) (Wk_c rfl (ih _ _ _))) (Wk_no _)
    | 1 =>
      refine Wk_eq (by rw [x_bind]) ?_
      exact Wk_ite (Wk_c rfl (ih _ _ _)) (Wk_no _)
    | 2 =>
      refine Wk_eq (by rw [x_bind]) ?_
      exact Wk_ite (Wk_c rfl (ih _ _ _)) (Wk_ite (Wk_c rfl (ih _ _ _)) (Wk_no _))
    | 3 =>
      refine Wk_eq (by rw [x_bind]) ?_
      exact Wk_ob (Wk_c rfl (wl_kind _ _ _ _)) (fun _ h260 => Wk_ite (Wk_ite (Wk_ite (Wk_c h260 (ih _ _ _)) (Wk_c h260 (ih _ _ _))) (Wk_no _)) (Wk_c h260 (ih _ _ _)))
    | 4 =>
      refine Wk_eq (by rw [x_bind]) ?_
      exact Wk_ob (Wk_c rfl (wl_fail _ _ _ _)) (fun _ h261 => Wk_so h261)
    | 5 =>
      refine Wk_eq (by rw [x_bind]) ?_
      exact Wk_ite (Wk_c rfl (ih _ _ _)) (Wk_no _)
    | 6 =>
      refine Wk_eq (by rw [x_bind]) ?_
      exact Wk_ite (Wk_c rfl (ih _ _ _)) (Wk_ite (Wk_ite (Wk_c rfl (ih _ _ _)) (Wk_ite (Wk_c rfl (ih _ _ _)) (Wk_no _))) (Wk_no _))
    | 7 =>
      refine Wk_eq (by rw [x_bind]) ?_
      exact Wk_c rfl (ih _ _ _)
    | 8 =>
      refine Wk_eq (by rw [x_bind]) ?_
      exact Wk_ob (Wk_c rfl (wl_bindOne _ _ _ _)) (fun _ h262 => Wk_ite (Wk_c h262 (ih _ _ _)) (Wk_no _))
    | 9 =>
      refine Wk_eq (by rw [x_bind]) ?_
      exact Wk_so rfl
    | b + 10 =>
      refine Wk_eq (by rw [x_bind]) (Wk_no _)
theorem wl_stepIter : ∀ (k b : Nat) (L : Nat → Int32) (σ : MS), Wk (x_stepIter k b L σ) σ.2.1 := by
  intro k
  induction k with
  | zero => intro b L σ; exact Wk_no _
  | succ k ih =>
    intro b L σ
    match b with
    | 0 =>
      refine Wk_eq (by rw [x_stepIter]) ?_
      exact Wk_ite (Wk_ite (Wk_ite (Wk_ite (Wk_so rfl) (Wk_c rfl (ih _ _ _))) (Wk_no _)) (Wk_no _)) (Wk_no _)
    | 1 =>
      refine Wk_eq (by rw [x_stepIter]) ?_
      exact Wk_ite (Wk_c rfl (ih _ _ _)) (Wk_no _)
    | 2 =>
      refine Wk_eq (by rw [x_stepIter]) ?_
      exact Wk_ob (Wk_c rfl (wl_worked _ _ _ _)) (fun _ h263 => Wk_ite (Wk_ob (Wk_c h263 (wl_memberAt _ _ _ _)) (fun _ h264 => Wk_ob (Wk_c h264 (wl_bind _ _ _ _)) (fun _ h265 => Wk_c h265 (ih _ _ _)))) (Wk_c h263 (ih _ _ _)))
    | 3 =>
      refine Wk_eq (by rw [x_stepIter]) ?_
      exact Wk_ite (Wk_c rfl (ih _ _ _)) (Wk_c rfl (ih _ _ _))
    | 4 =>
      refine Wk_eq (by rw [x_stepIter]) ?_
      exact Wk_c rfl (ih _ _ _)
    | 5 =>
      refine Wk_eq (by rw [x_stepIter]) ?_
      exact Wk_ite (Wk_so rfl) (Wk_no _)
    | b + 6 =>
      refine Wk_eq (by rw [x_stepIter]) (Wk_no _)
theorem wl_isTrue : ∀ (k b : Nat) (L : Nat → Int32) (σ : MS), Wk (x_isTrue k b L σ) σ.2.1 := by
  intro k
  induction k with
  | zero => intro b L σ; exact Wk_no _
  | succ k ih =>
    intro b L σ
    match b with
    | 0 =>
      refine Wk_eq (by rw [x_isTrue]) ?_
      exact Wk_ob (Wk_c rfl (wl_pop _ _ _ _)) (fun _ h266 => Wk_ite (Wk_c h266 (ih _ _ _)) (Wk_ite (Wk_c h266 (ih _ _ _)) (Wk_ob (Wk_c h266 (wl_fail _ _ _ _)) (fun _ h267 => Wk_c h267 (ih _ _ _)))))
    | 1 =>
      refine Wk_eq (by rw [x_isTrue]) ?_
      exact Wk_ite (Wk_c rfl (ih _ _ _)) (Wk_c rfl (ih _ _ _))
    | 2 =>
      refine Wk_eq (by rw [x_isTrue]) ?_
      exact Wk_c rfl (ih _ _ _)
    | 3 =>
      refine Wk_eq (by rw [x_isTrue]) ?_
      exact Wk_ite (Wk_so rfl) (Wk_no _)
    | b + 4 =>
      refine Wk_eq (by rw [x_isTrue]) (Wk_no _)
theorem wl_isSlice : ∀ (k b : Nat) (L : Nat → Int32) (σ : MS), Wk (x_isSlice k b L σ) σ.2.1 := by
  intro k
  induction k with
  | zero => intro b L σ; exact Wk_no _
  | succ k ih =>
    intro b L σ
    match b with
    | 0 =>
      refine Wk_eq (by rw [x_isSlice]) ?_
      exact Wk_ob (Wk_c rfl (wl_kind _ _ _ _)) (fun _ h268 => Wk_ite (Wk_c h268 (ih _ _ _)) (Wk_ite (Wk_c h268 (ih _ _ _)) (Wk_c h268 (ih _ _ _))))
    | 1 =>
      refine Wk_eq (by rw [x_isSlice]) ?_
      exact Wk_ob (Wk_c rfl (wl_kind _ _ _ _)) (fun _ h269 => Wk_ite (Wk_ob (Wk_c h269 (wl_kind _ _ _ _)) (fun _ h270 => Wk_ite (Wk_c h270 (ih _ _ _)) (Wk_c h270 (ih _ _ _)))) (Wk_c h269 (ih _ _ _)))
    | 2 =>
      refine Wk_eq (by rw [x_isSlice]) ?_
      exact Wk_ob (Wk_c rfl (wl_fail _ _ _ _)) (fun _ h271 => Wk_so h271)
    | 3 =>
      refine Wk_eq (by rw [x_isSlice]) ?_
      exact Wk_ob (Wk_c rfl (wl_intOf _ _ _ _ _)) (fun _ h272 => Wk_c h272 (ih _ _ _))
    | 4 =>
      refine Wk_eq (by rw [x_isSlice]) ?_
      exact Wk_ob (Wk_c rfl (wl_intOf _ _ _ _ _)) (fun _ h273 => Wk_c h273 (ih _ _ _))
    | 5 =>
      refine Wk_eq (by rw [x_isSlice]) ?_
      exact Wk_so rfl
    | b + 6 =>
      refine Wk_eq (by rw [x_isSlice]) (Wk_no _)
theorem wl_isSliceIn : ∀ (k b : Nat) (L : Nat → Int32) (σ : MS), Wk (x_isSliceIn k b L σ) σ.2.1 := by
  intro k
  induction k with
  | zero => intro b L σ; exact Wk_no _
  | succ k ih =>
    intro b L σ
    match b with
    | 0 =>
      refine Wk_eq (by rw [x_isSliceIn]) ?_
      exact Wk_ite (Wk_c rfl (ih _ _ _)) (Wk_ite (Wk_c rfl (ih _ _ _)) (Wk_ite (Wk_ite (Wk_c rfl (ih _ _ _)) (Wk_c rfl (ih _ _ _))) (Wk_no _)))
    | 1 =>
      refine Wk_eq (by rw [x_isSliceIn]) ?_
      exact Wk_ob (Wk_c rfl (wl_fail _ _ _ _)) (fun _ h274 => Wk_so h274)
    | 2 =>
      refine Wk_eq (by rw [x_isSliceIn]) ?_
      exact Wk_so rfl
    | b + 3 =>
      refine Wk_eq (by rw [x_isSliceIn]) (Wk_no _)
theorem wl_stringOf__28 : ∀ (k b : Nat) (L : Nat → Int32) (σ : MS), Wk (x_stringOf__28 k b L σ) σ.2.1 := by
  intro k
  induction k with
  | zero => intro b L σ; exact Wk_no _
  | succ k ih =>
    intro b L σ
    match b with
    | 0 =>
      refine Wk_eq (by rw [x_stringOf__28]) ?_
      exact Wk_ite (Wk_no _) (Wk_ite (Wk_c rfl (ih _ _ _)) (Wk_ob (Wk_c rfl (wl_fail _ _ _ _)) (fun _ h275 => Wk_so h275)))
    | 1 =>
      refine Wk_eq (by rw [x_stringOf__28]) ?_
      exact Wk_ob (Wk_c rfl (wl_make _ _ _ _)) (fun _ h276 => Wk_c h276 (ih _ _ _))
    | 2 =>
      refine Wk_eq (by rw [x_stringOf__28]) ?_
      exact Wk_ite (Wk_c rfl (ih _ _ _)) (Wk_ite (Wk_ite (Wk_ite (Wk_c rfl (ih _ _ _)) (Wk_no _)) (Wk_no _)) (Wk_c rfl (ih _ _ _)))
    | 3 =>
      refine Wk_eq (by rw [x_stringOf__28]) ?_
      exact Wk_c rfl (ih _ _ _)
    | 4 =>
      refine Wk_eq (by rw [x_stringOf__28]) ?_
      exact Wk_ite (Wk_no _) (Wk_ite (Wk_c rfl (ih _ _ _)) (Wk_no _))
    | 5 =>
      refine Wk_eq (by rw [x_stringOf__28]) ?_
      exact Wk_so rfl
    | b + 6 =>
      refine Wk_eq (by rw [x_stringOf__28]) (Wk_no _)
theorem wl_slice : ∀ (k b : Nat) (L : Nat → Int32) (σ : MS), Wk (x_slice k b L σ) σ.2.1 := by
  intro k
  induction k with
  | zero => intro b L σ; exact Wk_no _
  | succ k ih =>
    intro b L σ
    match b with
    | 0 =>
      refine Wk_eq (by rw [x_slice]) ?_
      exact Wk_ob (Wk_c rfl (wl_isSlice _ _ _ _)) (fun _ h277 => Wk_ite (Wk_c h277 (ih _ _ _)) (Wk_ob (Wk_c h277 (wl_isSliceIn _ _ _ _)) (fun _ h278 => Wk_ite (Wk_c h278 (ih _ _ _)) (Wk_c h278 (ih _ _ _)))))
    | 1 =>
      refine Wk_eq (by rw [x_slice]) ?_
      exact Wk_so rfl
    | 2 =>
      refine Wk_eq (by rw [x_slice]) ?_
      exact Wk_ite (Wk_ite (Wk_ob (Wk_c rfl (wl_stringOf__28 _ _ _ _)) (fun _ h279 => Wk_so h279)) (Wk_c rfl (ih _ _ _))) (Wk_no _)
    | 3 =>
      refine Wk_eq (by rw [x_slice]) ?_
      exact Wk_c rfl (ih _ _ _)
    | 4 =>
      refine Wk_eq (by rw [x_slice]) ?_
      exact Wk_ite (Wk_c rfl (ih _ _ _)) (Wk_ite (Wk_ob (Wk_c rfl (wl_push _ _ _ _)) (fun _ h280 => Wk_c h280 (ih _ _ _))) (Wk_no _))
    | 5 =>
      refine Wk_eq (by rw [x_slice]) ?_
      exact Wk_ob (Wk_c rfl (wl_tupleOf _ _ _ _)) (fun _ h281 => Wk_so h281)
    | b + 6 =>
      refine Wk_eq (by rw [x_slice]) (Wk_no _)
theorem wl_partAt : ∀ (k b : Nat) (L : Nat → Int32) (σ : MS), Wk (x_partAt k b L σ) σ.2.1 := by
  intro k
  induction k with
  | zero => intro b L σ; exact Wk_no _
  | succ k ih =>
    intro b L σ
    match b with
    | 0 =>
      refine Wk_eq (by rw [x_partAt]) ?_
      exact Wk_ob (Wk_c rfl (wl_kind _ _ _ _)) (fun _ h282 => Wk_ite (Wk_c h282 (ih _ _ _)) (Wk_ite (Wk_c h282 (ih _ _ _)) (Wk_c h282 (ih _ _ _))))
    | 1 =>
      refine Wk_eq (by rw [x_partAt]) ?_
      exact Wk_ob (Wk_c rfl (wl_kind _ _ _ _)) (fun _ h283 => Wk_ite (Wk_c h283 (ih _ _ _)) (Wk_ob (Wk_c h283 (wl_wrongKind _ _ _ _)) (fun _ h284 => Wk_so h284)))
    | 2 =>
      refine Wk_eq (by rw [x_partAt]) ?_
      exact Wk_ob (Wk_c rfl (wl_intOf _ _ _ _ _)) (fun _ h285 => Wk_ite (Wk_c h285 (ih _ _ _)) (Wk_ob (Wk_c h285 (wl_fail _ _ _ _)) (fun _ h286 => Wk_so h286)))
    | 3 =>
      refine Wk_eq (by rw [x_partAt]) ?_
      exact Wk_ite (Wk_ite (Wk_c rfl (ih _ _ _)) (Wk_c rfl (ih _ _ _))) (Wk_no _)
    | 4 =>
      refine Wk_eq (by rw [x_partAt]) ?_
      exact Wk_ob (Wk_c rfl (wl_memberAt _ _ _ _)) (fun _ h287 => Wk_c h287 (ih _ _ _))
    | 5 =>
      refine Wk_eq (by rw [x_partAt]) ?_
      exact Wk_so rfl
    | 6 =>
      refine Wk_eq (by rw [x_partAt]) ?_
      exact Wk_ob (Wk_c rfl (wl_isMap _ _ _ _)) (fun _ h288 => Wk_ite (Wk_ob (Wk_c h288 (wl_wrongKind _ _ _ _)) (fun _ h289 => Wk_so h289)) (Wk_c h288 (ih _ _ _)))
    | 7 =>
      refine Wk_eq (by rw [x_partAt]) ?_
      exact Wk_c rfl (ih _ _ _)
    | 8 =>
      refine Wk_eq (by rw [x_partAt]) ?_
      exact Wk_ite (Wk_ite (Wk_c rfl (ih _ _ _)) (Wk_ite (Wk_ite (Wk_ob (Wk_c rfl (wl_compare _ _ _ _)) (fun _ h290 => Wk_ite (Wk_ite (Wk_c h290 (ih _ _ _)) (Wk_no _)) (Wk_c h290 (ih _ _ _)))) (Wk_no _)) (Wk_no _))) (Wk_no _)
    | 9 =>
      refine Wk_eq (by rw [x_partAt]) ?_
      exact Wk_c rfl (ih _ _ _)
    | 10 =>
      refine Wk_eq (by rw [x_partAt]) ?_
      exact Wk_ite (Wk_c rfl (ih _ _ _)) (Wk_c rfl (ih _ _ _))
    | 11 =>
      refine Wk_eq (by rw [x_partAt]) ?_
      exact Wk_c rfl (ih _ _ _)
    | 12 =>
      refine Wk_eq (by rw [x_partAt]) ?_
      exact Wk_so rfl
    | b + 13 =>
      refine Wk_eq (by rw [x_partAt]) (Wk_no _)
theorem wl_image : ∀ (k b : Nat) (L : Nat → Int32) (σ : MS), Wk (x_image k b L σ) σ.2.1 := by
  intro k
  induction k with
  | zero => intro b L σ; exact Wk_no _
  | succ k ih =>
    intro b L σ
    match b with
    | 0 =>
      refine Wk_eq (by rw [x_image]) ?_
      exact Wk_ob (Wk_c rfl (wl_isMap _ _ _ _)) (fun _ h291 => Wk_ite (Wk_ob (Wk_c h291 (wl_wrongKind _ _ _ _)) (fun _ h292 => Wk_so h292)) (Wk_c h291 (ih _ _ _)))
    | 1 =>
      refine Wk_eq (by rw [x_image]) ?_
      exact Wk_c rfl (ih _ _ _)
    | 2 =>
      refine Wk_eq (by rw [x_image]) ?_
      exact Wk_ite (Wk_ite (Wk_c rfl (ih _ _ _)) (Wk_ite (Wk_ite (Wk_ob (Wk_c rfl (wl_compare _ _ _ _)) (fun _ h293 => Wk_ite (Wk_ite (Wk_ob (Wk_c h293 (wl_push _ _ _ _)) (fun _ h294 => Wk_c h294 (ih _ _ _))) (Wk_no _)) (Wk_c h293 (ih _ _ _)))) (Wk_no _)) (Wk_no _))) (Wk_no _)
    | 3 =>
      refine Wk_eq (by rw [x_image]) ?_
      exact Wk_c rfl (ih _ _ _)
    | 4 =>
      refine Wk_eq (by rw [x_image]) ?_
      exact Wk_ob (Wk_c rfl (wl_setOf _ _ _ _)) (fun _ h295 => Wk_so h295)
    | b + 5 =>
      refine Wk_eq (by rw [x_image]) (Wk_no _)
theorem wl_isRow : ∀ (k b : Nat) (L : Nat → Int32) (σ : MS), Wk (x_isRow k b L σ) σ.2.1 := by
  intro k
  induction k with
  | zero => intro b L σ; exact Wk_no _
  | succ k ih =>
    intro b L σ
    match b with
    | 0 =>
      refine Wk_eq (by rw [x_isRow]) ?_
      exact Wk_ob (Wk_c rfl (wl_kind _ _ _ _)) (fun _ h296 => Wk_ite (Wk_c h296 (ih _ _ _)) (Wk_c h296 (ih _ _ _)))
    | 1 =>
      refine Wk_eq (by rw [x_isRow]) ?_
      exact Wk_c rfl (ih _ _ _)
    | 2 =>
      refine Wk_eq (by rw [x_isRow]) ?_
      exact Wk_ite (Wk_so rfl) (Wk_no _)
    | b + 3 =>
      refine Wk_eq (by rw [x_isRow]) (Wk_no _)
theorem wl_nameOf : ∀ (k b : Nat) (L : Nat → Int32) (σ : MS), Wk (x_nameOf k b L σ) σ.2.1 := by
  intro k
  induction k with
  | zero => intro b L σ; exact Wk_no _
  | succ k ih =>
    intro b L σ
    match b with
    | 0 =>
      refine Wk_eq (by rw [x_nameOf]) ?_
      exact Wk_c rfl (ih _ _ _)
    | 1 =>
      refine Wk_eq (by rw [x_nameOf]) ?_
      exact Wk_ite (Wk_ite (Wk_c rfl (ih _ _ _)) (Wk_ite (Wk_c rfl (ih _ _ _)) (Wk_no _))) (Wk_no _)
    | 2 =>
      refine Wk_eq (by rw [x_nameOf]) ?_
      exact Wk_so rfl
    | b + 3 =>
      refine Wk_eq (by rw [x_nameOf]) (Wk_no _)
theorem wl_keysOf : ∀ (k b : Nat) (L : Nat → Int32) (σ : MS), Wk (x_keysOf k b L σ) σ.2.1 := by
  intro k
  induction k with
  | zero => intro b L σ; exact Wk_no _
  | succ k ih =>
    intro b L σ
    match b with
    | 0 =>
      refine Wk_eq (by rw [x_keysOf]) ?_
      exact Wk_ite (Wk_c rfl (ih _ _ _)) (Wk_c rfl (ih _ _ _))
    | 1 =>
      refine Wk_eq (by rw [x_keysOf]) ?_
      exact Wk_ite (Wk_c rfl (ih _ _ _)) (Wk_c rfl (ih _ _ _))
    | 2 =>
      refine Wk_eq (by rw [x_keysOf]) ?_
      exact Wk_c rfl (ih _ _ _)
    | 3 =>
      refine Wk_eq (by rw [x_keysOf]) ?_
      exact Wk_so rfl
    | b + 4 =>
      refine Wk_eq (by rw [x_keysOf]) (Wk_no _)
theorem wl_readParts : ∀ (k b : Nat) (L : Nat → Int32) (σ : MS), Wk (x_readParts k b L σ) σ.2.1 := by
  intro k
  induction k with
  | zero => intro b L σ; exact Wk_no _
  | succ k ih =>
    intro b L σ
    match b with
    | 0 =>
      refine Wk_eq (by rw [x_readParts]) ?_
      exact Wk_ob (Wk_c rfl (wl_nameOf _ _ _ _)) (fun _ h297 => Wk_ob (Wk_c h297 (wl_valueOf _ _ _ _)) (fun _ h298 => Wk_ob (Wk_c h298 (wl_push _ _ _ _)) (fun _ h299 => Wk_c h299 (ih _ _ _))))
    | 1 =>
      refine Wk_eq (by rw [x_readParts]) ?_
      exact Wk_ite (Wk_c rfl (ih _ _ _)) (Wk_ite (Wk_ite (Wk_ite (Wk_c rfl (ih _ _ _)) (Wk_c rfl (ih _ _ _))) (Wk_no _)) (Wk_c rfl (ih _ _ _)))
    | 2 =>
      refine Wk_eq (by rw [x_readParts]) ?_
      exact Wk_ite (Wk_ite (Wk_ob (Wk_c rfl (wl_sweep _ _ _ _)) (fun _ h300 => Wk_ite (Wk_ite (Wk_ite (Wk_ite (Wk_ob (Wk_c h300 (wl_partAt _ _ _ _)) (fun _ h301 => Wk_c h301 (ih _ _ _))) (Wk_no _)) (Wk_c h300 (ih _ _ _))) (Wk_no _)) (Wk_no _))) (Wk_no _)) (Wk_c rfl (ih _ _ _))
    | 3 =>
      refine Wk_eq (by rw [x_readParts]) ?_
      exact Wk_ite (Wk_ite (Wk_ite (Wk_ob (Wk_c rfl (wl_image _ _ _ _)) (fun _ h302 => Wk_c h302 (ih _ _ _))) (Wk_no _)) (Wk_c rfl (ih _ _ _))) (Wk_no _)
    | 4 =>
      refine Wk_eq (by rw [x_readParts]) ?_
      exact Wk_ite (Wk_ite (Wk_ob (Wk_c rfl (wl_slice _ _ _ _)) (fun _ h303 => Wk_c h303 (ih _ _ _))) (Wk_no _)) (Wk_no _)
    | 5 =>
      refine Wk_eq (by rw [x_readParts]) ?_
      exact Wk_ob (Wk_c rfl (wl_answer _ _ _ _)) (fun _ h304 => Wk_ob (Wk_c h304 (wl_push _ _ _ _)) (fun _ h305 => Wk_ite (Wk_ob (Wk_c h305 (wl_keysOf _ _ _ _)) (fun _ h306 => Wk_c h306 (ih _ _ _))) (Wk_no _)))
    | 6 =>
      refine Wk_eq (by rw [x_readParts]) ?_
      exact Wk_so rfl
    | b + 7 =>
      refine Wk_eq (by rw [x_readParts]) (Wk_no _)
theorem wl_keysIn : ∀ (k b : Nat) (L : Nat → Int32) (σ : MS), Wk (x_keysIn k b L σ) σ.2.1 := by
  intro k
  induction k with
  | zero => intro b L σ; exact Wk_no _
  | succ k ih =>
    intro b L σ
    match b with
    | 0 =>
      refine Wk_eq (by rw [x_keysIn]) ?_
      exact Wk_c rfl (ih _ _ _)
    | 1 =>
      refine Wk_eq (by rw [x_keysIn]) ?_
      exact Wk_ite (Wk_ite (Wk_c rfl (ih _ _ _)) (Wk_ite (Wk_ob (Wk_c rfl (wl_keysOf _ _ _ _)) (fun _ h307 => Wk_ite (Wk_c h307 (ih _ _ _)) (Wk_no _))) (Wk_no _))) (Wk_no _)
    | 2 =>
      refine Wk_eq (by rw [x_keysIn]) ?_
      exact Wk_so rfl
    | b + 3 =>
      refine Wk_eq (by rw [x_keysIn]) (Wk_no _)
theorem wl_putPlace : ∀ (k b : Nat) (L : Nat → Int32) (σ : MS), Wk (x_putPlace k b L σ) σ.2.1 := by
  intro k
  induction k with
  | zero => intro b L σ; exact Wk_no _
  | succ k ih =>
    intro b L σ
    match b with
    | 0 =>
      refine Wk_eq (by rw [x_putPlace]) ?_
      exact Wk_ite (Wk_ite (Wk_c rfl (ih _ _ _)) (Wk_ite (Wk_so rfl) (Wk_c rfl (ih _ _ _)))) (Wk_no _)
    | 1 =>
      refine Wk_eq (by rw [x_putPlace]) ?_
      exact Wk_ite (Wk_c rfl (ih _ _ _)) (Wk_ob (Wk_c rfl (wl_fail _ _ _ _)) (fun _ h308 => Wk_so h308))
    | 2 =>
      refine Wk_eq (by rw [x_putPlace]) ?_
      exact Wk_c rfl (ih _ _ _)
    | 3 =>
      refine Wk_eq (by rw [x_putPlace]) ?_
      exact Wk_ite (Wk_c rfl (ih _ _ _)) (Wk_ite (Wk_c rfl (ih _ _ _)) (Wk_c rfl (ih _ _ _)))
    | 4 =>
      refine Wk_eq (by rw [x_putPlace]) ?_
      exact Wk_ite (Wk_c rfl (ih _ _ _)) (Wk_c rfl (ih _ _ _))
    | 5 =>
      refine Wk_eq (by rw [x_putPlace]) ?_
      exact Wk_ite (Wk_c rfl (ih _ _ _)) (Wk_ite (Wk_c rfl (ih _ _ _)) (Wk_no _))
    | 6 =>
      refine Wk_eq (by rw [x_putPlace]) ?_
      exact Wk_c rfl (ih _ _ _)
    | 7 =>
      refine Wk_eq (by rw [x_putPlace]) ?_
      exact Wk_ob (Wk_c rfl (wl_push _ _ _ _)) (fun _ h309 => Wk_c h309 (ih _ _ _))
    | 8 =>
      refine Wk_eq (by rw [x_putPlace]) ?_
      exact Wk_ob (Wk_c rfl (wl_tupleOf _ _ _ _)) (fun _ h310 => Wk_so h310)
    | b + 9 =>
      refine Wk_eq (by rw [x_putPlace]) (Wk_no _)
theorem wl_pushOthers : ∀ (k b : Nat) (L : Nat → Int32) (σ : MS), Wk (x_pushOthers k b L σ) σ.2.1 := by
  intro k
  induction k with
  | zero => intro b L σ; exact Wk_no _
  | succ k ih =>
    intro b L σ
    match b with
    | 0 =>
      refine Wk_eq (by rw [x_pushOthers]) ?_
      exact Wk_c rfl (ih _ _ _)
    | 1 =>
      refine Wk_eq (by rw [x_pushOthers]) ?_
      exact Wk_ite (Wk_ite (Wk_c rfl (ih _ _ _)) (Wk_ite (Wk_ite (Wk_ob (Wk_c rfl (wl_compare _ _ _ _)) (fun _ h311 => Wk_ite (Wk_c h311 (ih _ _ _)) (Wk_ob (Wk_c h311 (wl_push _ _ _ _)) (fun _ h312 => Wk_c h312 (ih _ _ _))))) (Wk_no _)) (Wk_no _))) (Wk_no _)
    | 2 =>
      refine Wk_eq (by rw [x_pushOthers]) ?_
      exact Wk_c rfl (ih _ _ _)
    | 3 =>
      refine Wk_eq (by rw [x_pushOthers]) ?_
      exact Wk_so rfl
    | b + 4 =>
      refine Wk_eq (by rw [x_pushOthers]) (Wk_no _)
theorem wl_pair : ∀ (k b : Nat) (L : Nat → Int32) (σ : MS), Wk (x_pair k b L σ) σ.2.1 := by
  intro k
  induction k with
  | zero => intro b L σ; exact Wk_no _
  | succ k ih =>
    intro b L σ
    match b with
    | 0 =>
      refine Wk_eq (by rw [x_pair]) ?_
      exact Wk_ob (Wk_c rfl (wl_push _ _ _ _)) (fun _ h313 => Wk_ob (Wk_c h313 (wl_push _ _ _ _)) (fun _ h314 => Wk_ob (Wk_c h314 (wl_tupleOf _ _ _ _)) (fun _ h315 => Wk_so h315)))
    | b + 1 =>
      refine Wk_eq (by rw [x_pair]) (Wk_no _)
theorem wl_putAt : ∀ (k b : Nat) (L : Nat → Int32) (σ : MS), Wk (x_putAt k b L σ) σ.2.1 := by
  intro k
  induction k with
  | zero => intro b L σ; exact Wk_no _
  | succ k ih =>
    intro b L σ
    match b with
    | 0 =>
      refine Wk_eq (by rw [x_putAt]) ?_
      exact Wk_ob (Wk_c rfl (wl_kind _ _ _ _)) (fun _ h316 => Wk_ite (Wk_c h316 (ih _ _ _)) (Wk_ite (Wk_c h316 (ih _ _ _)) (Wk_c h316 (ih _ _ _))))
    | 1 =>
      refine Wk_eq (by rw [x_putAt]) ?_
      exact Wk_ob (Wk_c rfl (wl_kind _ _ _ _)) (fun _ h317 => Wk_ite (Wk_ite (Wk_ob (Wk_c h317 (wl_kind _ _ _ _)) (fun _ h318 => Wk_ite (Wk_ite (Wk_ite (Wk_c h318 (ih _ _ _)) (Wk_c h318 (ih _ _ _))) (Wk_no _)) (Wk_c h318 (ih _ _ _)))) (Wk_c h317 (ih _ _ _))) (Wk_c h317 (ih _ _ _)))
    | 2 =>
      refine Wk_eq (by rw [x_putAt]) ?_
      exact Wk_ob (Wk_c rfl (wl_wrongKind _ _ _ _)) (fun _ h319 => Wk_so h319)
    | 3 =>
      refine Wk_eq (by rw [x_putAt]) ?_
      exact Wk_ob (Wk_c rfl (wl_intOf _ _ _ _ _)) (fun _ h320 => Wk_ite (Wk_ite (Wk_c h320 (ih _ _ _)) (Wk_ite (Wk_ite (Wk_c h320 (ih _ _ _)) (Wk_c h320 (ih _ _ _))) (Wk_c h320 (ih _ _ _)))) (Wk_no _))
    | 4 =>
      refine Wk_eq (by rw [x_putAt]) ?_
      exact Wk_ob (Wk_c rfl (wl_fail _ _ _ _)) (fun _ h321 => Wk_so h321)
    | 5 =>
      refine Wk_eq (by rw [x_putAt]) ?_
      exact Wk_ite (Wk_c rfl (ih _ _ _)) (Wk_c rfl (ih _ _ _))
    | 6 =>
      refine Wk_eq (by rw [x_putAt]) ?_
      exact Wk_ite (Wk_c rfl (ih _ _ _)) (Wk_ite (Wk_ite (Wk_c rfl (ih _ _ _)) (Wk_no _)) (Wk_no _))
    | 7 =>
      refine Wk_eq (by rw [x_putAt]) ?_
      exact Wk_c rfl (ih _ _ _)
    | 8 =>
      refine Wk_eq (by rw [x_putAt]) ?_
      exact Wk_ite (Wk_ite (Wk_c rfl (ih _ _ _)) (Wk_no _)) (Wk_no _)
    | 9 =>
      refine Wk_eq (by rw [x_putAt]) ?_
      exact Wk_ite (Wk_c rfl (ih _ _ _)) (Wk_c rfl (ih _ _ _))
    | 10 =>
      refine Wk_eq (by rw [x_putAt]) ?_
      exact Wk_c rfl (ih _ _ _)
    | 11 =>
      refine Wk_eq (by rw [x_putAt]) ?_
      exact Wk_ob (Wk_c rfl (wl_stringOf__51 _ _ _ _)) (fun _ h322 => Wk_so h322)
    | 12 =>
      refine Wk_eq (by rw [x_putAt]) ?_
      exact Wk_ob (Wk_c rfl (wl_putPlace _ _ _ _)) (fun _ h323 => Wk_so h323)
    | 13 =>
      refine Wk_eq (by rw [x_putAt]) ?_
      exact Wk_ob (Wk_c rfl (wl_isMap _ _ _ _)) (fun _ h324 => Wk_ite (Wk_ob (Wk_c h324 (wl_wrongKind _ _ _ _)) (fun _ h325 => Wk_so h325)) (Wk_c h324 (ih _ _ _)))
    | 14 =>
      refine Wk_eq (by rw [x_putAt]) ?_
      exact Wk_ob (Wk_c rfl (wl_pushOthers _ _ _ _)) (fun _ h326 => Wk_ite (Wk_c h326 (ih _ _ _)) (Wk_ob (Wk_c h326 (wl_pair _ _ _ _)) (fun _ h327 => Wk_ob (Wk_c h327 (wl_push _ _ _ _)) (fun _ h328 => Wk_c h328 (ih _ _ _)))))
    | 15 =>
      refine Wk_eq (by rw [x_putAt]) ?_
      exact Wk_ite (Wk_c rfl (ih _ _ _)) (Wk_c rfl (ih _ _ _))
    | 16 =>
      refine Wk_eq (by rw [x_putAt]) ?_
      exact Wk_ob (Wk_c rfl (wl_setOf _ _ _ _)) (fun _ h329 => Wk_c h329 (ih _ _ _))
    | 17 =>
      refine Wk_eq (by rw [x_putAt]) ?_
      exact Wk_so rfl
    | b + 18 =>
      refine Wk_eq (by rw [x_putAt]) (Wk_no _)
theorem wl_putImage : ∀ (k b : Nat) (L : Nat → Int32) (σ : MS), Wk (x_putImage k b L σ) σ.2.1 := by
  intro k
  induction k with
  | zero => intro b L σ; exact Wk_no _
  | succ k ih =>
    intro b L σ
    match b with
    | 0 =>
      refine Wk_eq (by rw [x_putImage]) ?_
      exact Wk_ob (Wk_c rfl (wl_isMap _ _ _ _)) (fun _ h330 => Wk_ite (Wk_c h330 (ih _ _ _)) (Wk_ob (Wk_c h330 (wl_kind _ _ _ _)) (fun _ h331 => Wk_ite (Wk_c h331 (ih _ _ _)) (Wk_c h331 (ih _ _ _)))))
    | 1 =>
      refine Wk_eq (by rw [x_putImage]) ?_
      exact Wk_ob (Wk_c rfl (wl_wrongKind _ _ _ _)) (fun _ h332 => Wk_so h332)
    | 2 =>
      refine Wk_eq (by rw [x_putImage]) ?_
      exact Wk_ob (Wk_c rfl (wl_pushOthers _ _ _ _)) (fun _ h333 => Wk_c h333 (ih _ _ _))
    | 3 =>
      refine Wk_eq (by rw [x_putImage]) ?_
      exact Wk_ite (Wk_ite (Wk_c rfl (ih _ _ _)) (Wk_ite (Wk_ite (Wk_ob (Wk_c rfl (wl_pair _ _ _ _)) (fun _ h334 => Wk_ob (Wk_c h334 (wl_push _ _ _ _)) (fun _ h335 => Wk_c h335 (ih _ _ _)))) (Wk_no _)) (Wk_c rfl (ih _ _ _)))) (Wk_no _)
    | 4 =>
      refine Wk_eq (by rw [x_putImage]) ?_
      exact Wk_ite (Wk_c rfl (ih _ _ _)) (Wk_c rfl (ih _ _ _))
    | 5 =>
      refine Wk_eq (by rw [x_putImage]) ?_
      exact Wk_ob (Wk_c rfl (wl_setOf _ _ _ _)) (fun _ h336 => Wk_c h336 (ih _ _ _))
    | 6 =>
      refine Wk_eq (by rw [x_putImage]) ?_
      exact Wk_so rfl
    | b + 7 =>
      refine Wk_eq (by rw [x_putImage]) (Wk_no _)
theorem wl_putSlice : ∀ (k b : Nat) (L : Nat → Int32) (σ : MS), Wk (x_putSlice k b L σ) σ.2.1 := by
  intro k
  induction k with
  | zero => intro b L σ; exact Wk_no _
  | succ k ih =>
    intro b L σ
    match b with
    | 0 =>
      refine Wk_eq (by rw [x_putSlice]) ?_
      exact Wk_ob (Wk_c rfl (wl_isSlice _ _ _ _)) (fun _ h337 => Wk_ite (Wk_so h337) (Wk_c h337 (ih _ _ _)))
    | 1 =>
      refine Wk_eq (by rw [x_putSlice]) ?_
      exact Wk_ob (Wk_c rfl (wl_kind _ _ _ _)) (fun _ h338 => Wk_ob (Wk_c h338 (wl_kind _ _ _ _)) (fun _ h339 => Wk_ite (Wk_c h339 (ih _ _ _)) (Wk_ob (Wk_c h339 (wl_wrongKind _ _ _ _)) (fun _ h340 => Wk_so h340))))
    | 2 =>
      refine Wk_eq (by rw [x_putSlice]) ?_
      exact Wk_ob (Wk_c rfl (wl_isSliceIn _ _ _ _)) (fun _ h341 => Wk_ite (Wk_so h341) (Wk_c h341 (ih _ _ _)))
    | 3 =>
      refine Wk_eq (by rw [x_putSlice]) ?_
      exact Wk_ite (Wk_ite (Wk_ite (Wk_ite (Wk_c rfl (ih _ _ _)) (Wk_c rfl (ih _ _ _))) (Wk_no _)) (Wk_no _)) (Wk_no _)
    | 4 =>
      refine Wk_eq (by rw [x_putSlice]) ?_
      exact Wk_ite (Wk_c rfl (ih _ _ _)) (Wk_ite (Wk_ite (Wk_c rfl (ih _ _ _)) (Wk_no _)) (Wk_no _))
    | 5 =>
      refine Wk_eq (by rw [x_putSlice]) ?_
      exact Wk_c rfl (ih _ _ _)
    | 6 =>
      refine Wk_eq (by rw [x_putSlice]) ?_
      exact Wk_c rfl (ih _ _ _)
    | 7 =>
      refine Wk_eq (by rw [x_putSlice]) ?_
      exact Wk_ite (Wk_c rfl (ih _ _ _)) (Wk_ite (Wk_ite (Wk_c rfl (ih _ _ _)) (Wk_no _)) (Wk_no _))
    | 8 =>
      refine Wk_eq (by rw [x_putSlice]) ?_
      exact Wk_c rfl (ih _ _ _)
    | 9 =>
      refine Wk_eq (by rw [x_putSlice]) ?_
      exact Wk_c rfl (ih _ _ _)
    | 10 =>
      refine Wk_eq (by rw [x_putSlice]) ?_
      exact Wk_ite (Wk_c rfl (ih _ _ _)) (Wk_ite (Wk_ite (Wk_c rfl (ih _ _ _)) (Wk_no _)) (Wk_no _))
    | 11 =>
      refine Wk_eq (by rw [x_putSlice]) ?_
      exact Wk_c rfl (ih _ _ _)
    | 12 =>
      refine Wk_eq (by rw [x_putSlice]) ?_
      exact Wk_ob (Wk_c rfl (wl_stringOf__51 _ _ _ _)) (fun _ h342 => Wk_so h342)
    | 13 =>
      refine Wk_eq (by rw [x_putSlice]) ?_
      exact Wk_c rfl (ih _ _ _)
    | 14 =>
      refine Wk_eq (by rw [x_putSlice]) ?_
      exact Wk_ite (Wk_c rfl (ih _ _ _)) (Wk_ite (Wk_ob (Wk_c rfl (wl_push _ _ _ _)) (fun _ h343 => Wk_c h343 (ih _ _ _))) (Wk_no _))
    | 15 =>
      refine Wk_eq (by rw [x_putSlice]) ?_
      exact Wk_c rfl (ih _ _ _)
    | 16 =>
      refine Wk_eq (by rw [x_putSlice]) ?_
      exact Wk_ite (Wk_c rfl (ih _ _ _)) (Wk_ite (Wk_ob (Wk_c rfl (wl_push _ _ _ _)) (fun _ h344 => Wk_c h344 (ih _ _ _))) (Wk_no _))
    | 17 =>
      refine Wk_eq (by rw [x_putSlice]) ?_
      exact Wk_c rfl (ih _ _ _)
    | 18 =>
      refine Wk_eq (by rw [x_putSlice]) ?_
      exact Wk_ite (Wk_c rfl (ih _ _ _)) (Wk_ite (Wk_ob (Wk_c rfl (wl_push _ _ _ _)) (fun _ h345 => Wk_c h345 (ih _ _ _))) (Wk_no _))
    | 19 =>
      refine Wk_eq (by rw [x_putSlice]) ?_
      exact Wk_ob (Wk_c rfl (wl_tupleOf _ _ _ _)) (fun _ h346 => Wk_so h346)
    | b + 20 =>
      refine Wk_eq (by rw [x_putSlice]) (Wk_no _)
theorem wl_assign : ∀ (k b : Nat) (L : Nat → Int32) (σ : MS), Wk (x_assign k b L σ) σ.2.1 := by
  intro k
  induction k with
  | zero => intro b L σ; exact Wk_no _
  | succ k ih =>
    intro b L σ
    match b with
    | 0 =>
      refine Wk_eq (by rw [x_assign]) ?_
      exact Wk_ite (Wk_c rfl (ih _ _ _)) (Wk_so rfl)
    | 1 =>
      refine Wk_eq (by rw [x_assign]) ?_
      exact Wk_ob (Wk_c rfl (wl_valueOf _ _ _ _)) (fun _ h347 => Wk_ob (Wk_c h347 (wl_size _ _ _ _)) (fun _ h348 => Wk_ob (Wk_c h348 (wl_size _ _ _ _)) (fun _ h349 => Wk_ite (Wk_c h349 (ih _ _ _)) (Wk_ob (Wk_c h349 (wl_fail _ _ _ _)) (fun _ h350 => Wk_so h350)))))
    | 2 =>
      refine Wk_eq (by rw [x_assign]) ?_
      exact Wk_ob (Wk_c rfl (wl_size _ _ _ _)) (fun _ h351 => Wk_c h351 (ih _ _ _))
    | 3 =>
      refine Wk_eq (by rw [x_assign]) ?_
      exact Wk_ob (Wk_c rfl (wl_bindOne _ _ _ _)) (fun _ h352 => Wk_so h352)
    | b + 4 =>
      refine Wk_eq (by rw [x_assign]) (Wk_no _)
theorem wl_write : ∀ (k b : Nat) (L : Nat → Int32) (σ : MS), Wk (x_write k b L σ) σ.2.1 := by
  intro k
  induction k with
  | zero => intro b L σ; exact Wk_no _
  | succ k ih =>
    intro b L σ
    match b with
    | 0 =>
      refine Wk_eq (by rw [x_write]) ?_
      exact Wk_ite (Wk_c rfl (ih _ _ _)) (Wk_so rfl)
    | 1 =>
      refine Wk_eq (by rw [x_write]) ?_
      exact Wk_ob (Wk_c rfl (wl_readParts _ _ _ _)) (fun _ h353 => Wk_ob (Wk_c h353 (wl_keysIn _ _ _ _)) (fun _ h354 => Wk_ite (Wk_ob (Wk_c h354 (wl_push _ _ _ _)) (fun _ h355 => Wk_c h355 (ih _ _ _))) (Wk_no _)))
    | 2 =>
      refine Wk_eq (by rw [x_write]) ?_
      exact Wk_ite (Wk_ite (Wk_c rfl (ih _ _ _)) (Wk_ite (Wk_ite (Wk_ob (Wk_c rfl (wl_keysOf _ _ _ _)) (fun _ h356 => Wk_ob (Wk_c h356 (wl_sweep _ _ _ _)) (fun _ h357 => Wk_ite (Wk_ite (Wk_ite (Wk_ite (Wk_ite (Wk_ob (Wk_c h357 (wl_putAt _ _ _ _)) (fun _ h358 => Wk_c h358 (ih _ _ _))) (Wk_no _)) (Wk_no _)) (Wk_c h357 (ih _ _ _))) (Wk_no _)) (Wk_no _)))) (Wk_no _)) (Wk_c rfl (ih _ _ _)))) (Wk_no _)
    | 3 =>
      refine Wk_eq (by rw [x_write]) ?_
      exact Wk_ite (Wk_ite (Wk_ite (Wk_ite (Wk_ob (Wk_c rfl (wl_putImage _ _ _ _)) (fun _ h359 => Wk_c h359 (ih _ _ _))) (Wk_no _)) (Wk_no _)) (Wk_c rfl (ih _ _ _))) (Wk_no _)
    | 4 =>
      refine Wk_eq (by rw [x_write]) ?_
      exact Wk_ite (Wk_ite (Wk_ite (Wk_ob (Wk_c rfl (wl_putSlice _ _ _ _)) (fun _ h360 => Wk_c h360 (ih _ _ _))) (Wk_no _)) (Wk_no _)) (Wk_no _)
    | 5 =>
      refine Wk_eq (by rw [x_write]) ?_
      exact Wk_ob (Wk_c rfl (wl_answer _ _ _ _)) (fun _ h361 => Wk_ite (Wk_c h361 (ih _ _ _)) (Wk_no _))
    | 6 =>
      refine Wk_eq (by rw [x_write]) ?_
      exact Wk_ite (Wk_c rfl (ih _ _ _)) (Wk_no _)
    | 7 =>
      refine Wk_eq (by rw [x_write]) ?_
      exact Wk_c rfl (ih _ _ _)
    | 8 =>
      refine Wk_eq (by rw [x_write]) ?_
      exact Wk_ite (Wk_ite (Wk_ob (Wk_c rfl (wl_assign _ _ _ _)) (fun _ h362 => Wk_c h362 (ih _ _ _))) (Wk_no _)) (Wk_c rfl (ih _ _ _))
    | 9 =>
      refine Wk_eq (by rw [x_write]) ?_
      exact Wk_so rfl
    | b + 10 =>
      refine Wk_eq (by rw [x_write]) (Wk_no _)
theorem wl_dropIter : ∀ (k b : Nat) (L : Nat → Int32) (σ : MS), Wk (x_dropIter k b L σ) σ.2.1 := by
  intro k
  induction k with
  | zero => intro b L σ; exact Wk_no _
  | succ k ih =>
    intro b L σ
    match b with
    | 0 =>
      refine Wk_eq (by rw [x_dropIter]) ?_
      exact Wk_ite (Wk_ite (Wk_c rfl (ih _ _ _)) (Wk_no _)) (Wk_no _)
    | 1 =>
      refine Wk_eq (by rw [x_dropIter]) ?_
      exact Wk_ite (Wk_ite (Wk_ob (Wk_c rfl (wl_size _ _ _ _)) (fun _ h363 => Wk_so h363)) (Wk_no _)) (Wk_no _)
    | b + 2 =>
      refine Wk_eq (by rw [x_dropIter]) (Wk_no _)
theorem wl_closeFor : ∀ (k b : Nat) (L : Nat → Int32) (σ : MS), Wk (x_closeFor k b L σ) σ.2.1 := by
  intro k
  induction k with
  | zero => intro b L σ; exact Wk_no _
  | succ k ih =>
    intro b L σ
    match b with
    | 0 =>
      refine Wk_eq (by rw [x_closeFor]) ?_
      exact Wk_ite (Wk_c rfl (ih _ _ _)) (Wk_no _)
    | 1 =>
      refine Wk_eq (by rw [x_closeFor]) ?_
      exact Wk_ite (Wk_ite (Wk_ite (Wk_c rfl (ih _ _ _)) (Wk_ob (Wk_c rfl (wl_dropIter _ _ _ _)) (fun _ h364 => Wk_c h364 (ih _ _ _)))) (Wk_no _)) (Wk_no _)
    | 2 =>
      refine Wk_eq (by rw [x_closeFor]) ?_
      exact Wk_ite (Wk_ite (Wk_c rfl (ih _ _ _)) (Wk_no _)) (Wk_no _)
    | 3 =>
      refine Wk_eq (by rw [x_closeFor]) ?_
      exact Wk_ite (Wk_ite (Wk_c rfl (ih _ _ _)) (Wk_no _)) (Wk_no _)
    | 4 =>
      refine Wk_eq (by rw [x_closeFor]) ?_
      exact Wk_ite (Wk_c rfl (ih _ _ _)) (Wk_ite (Wk_c rfl (ih _ _ _)) (Wk_no _))
    | 5 =>
      refine Wk_eq (by rw [x_closeFor]) ?_
      exact Wk_ite (Wk_c rfl (ih _ _ _)) (Wk_ob (Wk_c rfl (wl_valueOf _ _ _ _)) (fun _ h365 => Wk_ob (Wk_c h365 (wl_size _ _ _ _)) (fun _ h366 => Wk_c h366 (ih _ _ _))))
    | 6 =>
      refine Wk_eq (by rw [x_closeFor]) ?_
      exact Wk_ob (Wk_c rfl (wl_bindOne _ _ _ _)) (fun _ h367 => Wk_ite (Wk_c h367 (ih _ _ _)) (Wk_no _))
    | 7 =>
      refine Wk_eq (by rw [x_closeFor]) ?_
      exact Wk_ite (Wk_c rfl (ih _ _ _)) (Wk_no _)
    | 8 =>
      refine Wk_eq (by rw [x_closeFor]) ?_
      exact Wk_so rfl
    | b + 9 =>
      refine Wk_eq (by rw [x_closeFor]) (Wk_no _)
theorem wl_iterOf : ∀ (k b : Nat) (L : Nat → Int32) (σ : MS), Wk (x_iterOf k b L σ) σ.2.1 := by
  intro k
  induction k with
  | zero => intro b L σ; exact Wk_no _
  | succ k ih =>
    intro b L σ
    match b with
    | 0 =>
      refine Wk_eq (by rw [x_iterOf]) ?_
      exact Wk_ite (Wk_c rfl (ih _ _ _)) (Wk_no _)
    | 1 =>
      refine Wk_eq (by rw [x_iterOf]) ?_
      exact Wk_ite (Wk_c rfl (ih _ _ _)) (Wk_ite (Wk_c rfl (ih _ _ _)) (Wk_no _))
    | 2 =>
      refine Wk_eq (by rw [x_iterOf]) ?_
      exact Wk_so rfl
    | b + 3 =>
      refine Wk_eq (by rw [x_iterOf]) (Wk_no _)
theorem wl_stepFor : ∀ (k b : Nat) (L : Nat → Int32) (σ : MS), Wk (x_stepFor k b L σ) σ.2.1 := by
  intro k
  induction k with
  | zero => intro b L σ; exact Wk_no _
  | succ k ih =>
    intro b L σ
    match b with
    | 0 =>
      refine Wk_eq (by rw [x_stepFor]) ?_
      exact Wk_ite (Wk_ite (Wk_ite (Wk_ite (Wk_ite (Wk_so rfl) (Wk_c rfl (ih _ _ _))) (Wk_no _)) (Wk_no _)) (Wk_no _)) (Wk_no _)
    | 1 =>
      refine Wk_eq (by rw [x_stepFor]) ?_
      exact Wk_ite (Wk_c rfl (ih _ _ _)) (Wk_no _)
    | 2 =>
      refine Wk_eq (by rw [x_stepFor]) ?_
      exact Wk_ob (Wk_c rfl (wl_worked _ _ _ _)) (fun _ h368 => Wk_ite (Wk_c h368 (ih _ _ _)) (Wk_so h368))
    | 3 =>
      refine Wk_eq (by rw [x_stepFor]) ?_
      exact Wk_ob (Wk_c rfl (wl_memberAt _ _ _ _)) (fun _ h369 => Wk_ite (Wk_ite (Wk_ite (Wk_ob (Wk_c h369 (wl_assign _ _ _ _)) (fun _ h370 => Wk_ite (Wk_c h370 (ih _ _ _)) (Wk_c h370 (ih _ _ _)))) (Wk_no _)) (Wk_c h369 (ih _ _ _))) (Wk_no _))
    | 4 =>
      refine Wk_eq (by rw [x_stepFor]) ?_
      exact Wk_c rfl (ih _ _ _)
    | 5 =>
      refine Wk_eq (by rw [x_stepFor]) ?_
      exact Wk_ite (Wk_so rfl) (Wk_no _)
    | 6 =>
      refine Wk_eq (by rw [x_stepFor]) ?_
      exact Wk_ite (Wk_c rfl (ih _ _ _)) (Wk_no _)
    | 7 =>
      refine Wk_eq (by rw [x_stepFor]) ?_
      exact Wk_ite (Wk_c rfl (ih _ _ _)) (Wk_ite (Wk_c rfl (ih _ _ _)) (Wk_no _))
    | 8 =>
      refine Wk_eq (by rw [x_stepFor]) ?_
      exact Wk_ob (Wk_c rfl (wl_kind _ _ _ _)) (fun _ h371 => Wk_ite (Wk_ite (Wk_ite (Wk_c h371 (ih _ _ _)) (Wk_c h371 (ih _ _ _))) (Wk_no _)) (Wk_c h371 (ih _ _ _)))
    | 9 =>
      refine Wk_eq (by rw [x_stepFor]) ?_
      exact Wk_ob (Wk_c rfl (wl_fail _ _ _ _)) (fun _ h372 => Wk_so h372)
    | 10 =>
      refine Wk_eq (by rw [x_stepFor]) ?_
      exact Wk_ite (Wk_c rfl (ih _ _ _)) (Wk_no _)
    | 11 =>
      refine Wk_eq (by rw [x_stepFor]) ?_
      exact Wk_ite (Wk_c rfl (ih _ _ _)) (Wk_ite (Wk_ite (Wk_c rfl (ih _ _ _)) (Wk_ite (Wk_c rfl (ih _ _ _)) (Wk_no _))) (Wk_no _))
    | 12 =>
      refine Wk_eq (by rw [x_stepFor]) ?_
      exact Wk_c rfl (ih _ _ _)
    | 13 =>
      refine Wk_eq (by rw [x_stepFor]) ?_
      exact Wk_ob (Wk_c rfl (wl_assign _ _ _ _)) (fun _ h373 => Wk_ite (Wk_c h373 (ih _ _ _)) (Wk_no _))
    | 14 =>
      refine Wk_eq (by rw [x_stepFor]) ?_
      exact Wk_ite (Wk_c rfl (ih _ _ _)) (Wk_c rfl (ih _ _ _))
    | 15 =>
      refine Wk_eq (by rw [x_stepFor]) ?_
      exact Wk_c rfl (ih _ _ _)
    | 16 =>
      refine Wk_eq (by rw [x_stepFor]) ?_
      exact Wk_ite (Wk_so rfl) (Wk_no _)
    | b + 17 =>
      refine Wk_eq (by rw [x_stepFor]) (Wk_no _)
theorem wl_without : ∀ (k b : Nat) (L : Nat → Int32) (σ : MS), Wk (x_without k b L σ) σ.2.1 := by
  intro k
  induction k with
  | zero => intro b L σ; exact Wk_no _
  | succ k ih =>
    intro b L σ
    match b with
    | 0 =>
      refine Wk_eq (by rw [x_without]) ?_
      exact Wk_ite (Wk_ite (Wk_ite (Wk_c rfl (ih _ _ _)) (Wk_c rfl (ih _ _ _))) (Wk_no _)) (Wk_no _)
    | 1 =>
      refine Wk_eq (by rw [x_without]) ?_
      exact Wk_ite (Wk_c rfl (ih _ _ _)) (Wk_ite (Wk_ite (Wk_c rfl (ih _ _ _)) (Wk_no _)) (Wk_no _))
    | 2 =>
      refine Wk_eq (by rw [x_without]) ?_
      exact Wk_ite (Wk_c rfl (ih _ _ _)) (Wk_c rfl (ih _ _ _))
    | 3 =>
      refine Wk_eq (by rw [x_without]) ?_
      exact Wk_c rfl (ih _ _ _)
    | 4 =>
      refine Wk_eq (by rw [x_without]) ?_
      exact Wk_c rfl (ih _ _ _)
    | 5 =>
      refine Wk_eq (by rw [x_without]) ?_
      exact Wk_ob (Wk_c rfl (wl_stringOf__51 _ _ _ _)) (fun _ h374 => Wk_so h374)
    | 6 =>
      refine Wk_eq (by rw [x_without]) ?_
      exact Wk_c rfl (ih _ _ _)
    | 7 =>
      refine Wk_eq (by rw [x_without]) ?_
      exact Wk_ite (Wk_c rfl (ih _ _ _)) (Wk_ite (Wk_c rfl (ih _ _ _)) (Wk_ite (Wk_ob (Wk_c rfl (wl_push _ _ _ _)) (fun _ h375 => Wk_c h375 (ih _ _ _))) (Wk_no _)))
    | 8 =>
      refine Wk_eq (by rw [x_without]) ?_
      exact Wk_c rfl (ih _ _ _)
    | 9 =>
      refine Wk_eq (by rw [x_without]) ?_
      exact Wk_ite (Wk_ite (Wk_ob (Wk_c rfl (wl_setOf _ _ _ _)) (fun _ h376 => Wk_c h376 (ih _ _ _))) (Wk_c rfl (ih _ _ _))) (Wk_no _)
    | 10 =>
      refine Wk_eq (by rw [x_without]) ?_
      exact Wk_ob (Wk_c rfl (wl_tupleOf _ _ _ _)) (fun _ h377 => Wk_c h377 (ih _ _ _))
    | 11 =>
      refine Wk_eq (by rw [x_without]) ?_
      exact Wk_so rfl
    | b + 12 =>
      refine Wk_eq (by rw [x_without]) (Wk_no _)
theorem wl_makePoint : ∀ (k b : Nat) (L : Nat → Int32) (σ : MS), Wk (x_makePoint k b L σ) σ.2.1 := by
  intro k
  induction k with
  | zero => intro b L σ; exact Wk_no _
  | succ k ih =>
    intro b L σ
    match b with
    | 0 =>
      refine Wk_eq (by rw [x_makePoint]) ?_
      exact Wk_ite (Wk_c rfl (ih _ _ _)) (Wk_ite (Wk_c rfl (ih _ _ _)) (Wk_c rfl (ih _ _ _)))
    | 1 =>
      refine Wk_eq (by rw [x_makePoint]) ?_
      exact Wk_ob (Wk_c rfl (wl_fail _ _ _ _)) (fun _ h378 => Wk_so h378)
    | 2 =>
      refine Wk_eq (by rw [x_makePoint]) ?_
      exact Wk_ite (Wk_c rfl (ih _ _ _)) (Wk_no _)
    | 3 =>
      refine Wk_eq (by rw [x_makePoint]) ?_
      exact Wk_c rfl (ih _ _ _)
    | 4 =>
      refine Wk_eq (by rw [x_makePoint]) ?_
      exact Wk_ite (Wk_c rfl (ih _ _ _)) (Wk_ite (Wk_ite (Wk_c rfl (ih _ _ _)) (Wk_no _)) (Wk_no _))
    | 5 =>
      refine Wk_eq (by rw [x_makePoint]) ?_
      exact Wk_c rfl (ih _ _ _)
    | 6 =>
      refine Wk_eq (by rw [x_makePoint]) ?_
      exact Wk_ite (Wk_c rfl (ih _ _ _)) (Wk_no _)
    | 7 =>
      refine Wk_eq (by rw [x_makePoint]) ?_
      exact Wk_c rfl (ih _ _ _)
    | 8 =>
      refine Wk_eq (by rw [x_makePoint]) ?_
      exact Wk_so rfl
    | b + 9 =>
      refine Wk_eq (by rw [x_makePoint]) (Wk_no _)
theorem wl_loopOf : ∀ (k b : Nat) (L : Nat → Int32) (σ : MS), Wk (x_loopOf k b L σ) σ.2.1 := by
  intro k
  induction k with
  | zero => intro b L σ; exact Wk_no _
  | succ k ih =>
    intro b L σ
    match b with
    | 0 =>
      refine Wk_eq (by rw [x_loopOf]) ?_
      exact Wk_ite (Wk_ite (Wk_c rfl (ih _ _ _)) (Wk_no _)) (Wk_no _)
    | 1 =>
      refine Wk_eq (by rw [x_loopOf]) ?_
      exact Wk_ite (Wk_ite (Wk_c rfl (ih _ _ _)) (Wk_ite (Wk_ite (Wk_c rfl (ih _ _ _)) (Wk_ite (Wk_ite (Wk_c rfl (ih _ _ _)) (Wk_no _)) (Wk_no _))) (Wk_no _))) (Wk_no _)
    | 2 =>
      refine Wk_eq (by rw [x_loopOf]) ?_
      exact Wk_so rfl
    | b + 3 =>
      refine Wk_eq (by rw [x_loopOf]) (Wk_no _)
theorem wl_putOut : ∀ (k b : Nat) (L : Nat → Int32) (σ : MS), Wk (x_putOut k b L σ) σ.2.1 := by
  intro k
  induction k with
  | zero => intro b L σ; exact Wk_no _
  | succ k ih =>
    intro b L σ
    match b with
    | 0 =>
      refine Wk_eq (by rw [x_putOut]) ?_
      exact Wk_ite (Wk_c rfl (ih _ _ _)) (Wk_ite (Wk_c rfl (ih _ _ _)) (Wk_no _))
    | 1 =>
      refine Wk_eq (by rw [x_putOut]) ?_
      exact Wk_ite (Wk_c rfl (ih _ _ _)) (Wk_c rfl (ih _ _ _))
    | 2 =>
      refine Wk_eq (by rw [x_putOut]) ?_
      exact Wk_c rfl (ih _ _ _)
    | 3 =>
      refine Wk_eq (by rw [x_putOut]) ?_
      exact Wk_so rfl
    | b + 4 =>
      refine Wk_eq (by rw [x_putOut]) (Wk_no _)
theorem wl_forget : ∀ (k b : Nat) (L : Nat → Int32) (σ : MS), Wk (x_forget k b L σ) σ.2.1 := by
  intro k
  induction k with
  | zero => intro b L σ; exact Wk_no _
  | succ k ih =>
    intro b L σ
    match b with
    | 0 =>
      refine Wk_eq (by rw [x_forget]) ?_
      exact Wk_c rfl (ih _ _ _)
    | 1 =>
      refine Wk_eq (by rw [x_forget]) ?_
      exact Wk_ite (Wk_c rfl (ih _ _ _)) (Wk_ite (Wk_c rfl (ih _ _ _)) (Wk_no _))
    | 2 =>
      refine Wk_eq (by rw [x_forget]) ?_
      exact Wk_c rfl (ih _ _ _)
    | 3 =>
      refine Wk_eq (by rw [x_forget]) ?_
      exact Wk_c rfl (ih _ _ _)
    | 4 =>
      refine Wk_eq (by rw [x_forget]) ?_
      exact Wk_ite (Wk_c rfl (ih _ _ _)) (Wk_ite (Wk_ite (Wk_c rfl (ih _ _ _)) (Wk_ite (Wk_c rfl (ih _ _ _)) (Wk_no _))) (Wk_no _))
    | 5 =>
      refine Wk_eq (by rw [x_forget]) ?_
      exact Wk_c rfl (ih _ _ _)
    | 6 =>
      refine Wk_eq (by rw [x_forget]) ?_
      exact Wk_ite (Wk_c rfl (ih _ _ _)) (Wk_no _)
    | 7 =>
      refine Wk_eq (by rw [x_forget]) ?_
      exact Wk_c rfl (ih _ _ _)
    | 8 =>
      refine Wk_eq (by rw [x_forget]) ?_
      exact Wk_c rfl (ih _ _ _)
    | 9 =>
      refine Wk_eq (by rw [x_forget]) ?_
      exact Wk_ite (Wk_ite (Wk_c rfl (ih _ _ _)) (Wk_ite (Wk_c rfl (ih _ _ _)) (Wk_no _))) (Wk_no _)
    | 10 =>
      refine Wk_eq (by rw [x_forget]) ?_
      exact Wk_ite (Wk_c rfl (ih _ _ _)) (Wk_ite (Wk_ite (Wk_c rfl (ih _ _ _)) (Wk_ite (Wk_c rfl (ih _ _ _)) (Wk_no _))) (Wk_no _))
    | 11 =>
      refine Wk_eq (by rw [x_forget]) ?_
      exact Wk_c rfl (ih _ _ _)
    | 12 =>
      refine Wk_eq (by rw [x_forget]) ?_
      exact Wk_ite (Wk_c rfl (ih _ _ _)) (Wk_no _)
    | 13 =>
      refine Wk_eq (by rw [x_forget]) ?_
      exact Wk_c rfl (ih _ _ _)
    | 14 =>
      refine Wk_eq (by rw [x_forget]) ?_
      exact Wk_c rfl (ih _ _ _)
    | 15 =>
      refine Wk_eq (by rw [x_forget]) ?_
      exact Wk_so rfl
    | b + 16 =>
      refine Wk_eq (by rw [x_forget]) (Wk_no _)
