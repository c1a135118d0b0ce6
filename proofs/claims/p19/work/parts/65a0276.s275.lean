/-! What a statement never writes stays (reference; made by kq.py). -/
abbrev KT := Int64 × (Nat → Int32) × (Nat → Int32) × (Nat → Int32) × Int32 × Int32 × Int32 × Int32 × Int32
/-- the seed of the run, types' names, flags, how many slots; nodes, pool, 66, the first statement, whether there is a run -/
def kq (σ : MS) : KT := (σ.2.1 113, σ.2.2 2, σ.2.2 20, σ.2.2 21, σ.1 22, σ.1 24, σ.1 66, σ.1 110, σ.1 112)
def Kq (x : Option (Int32 × MS)) (w : KT) : Prop := ∀ r, x = some r → kq r.2 = w
theorem Kq_no (w : KT) : Kq none w := fun _ h => by cases h
theorem Kq_so {r : Int32 × MS} {w : KT} (h : kq r.2 = w) : Kq (some r) w := fun _ e => by cases e; exact h
theorem Kq_eq {a a' : Option (Int32 × MS)} {w : KT} (h1 : a = a') (h : Kq a' w) : Kq a w := by rw [h1]; exact h
theorem Kq_c {a : Option (Int32 × MS)} {w w' : KT} (h : w' = w) (t : Kq a w') : Kq a w := h ▸ t
theorem Kq_ob {x : Option (Int32 × MS)} {f : Int32 × MS → Option (Int32 × MS)} {w : KT} (h1 : Kq x w) (h2 : ∀ r, kq r.2 = w → Kq (f r) w) : Kq (ob x f) w := by
  intro r hr
  cases x with
  | none => cases hr
  | some s => exact h2 s (h1 s rfl) r hr
theorem Kq_ite {c : Prop} {_ : Decidable c} {a b : Option (Int32 × MS)} {w : KT} (h1 : Kq a w) (h2 : Kq b w) : Kq (if c then a else b) w := by
  by_cases h : c
  · rw [if_pos h]; exact h1
  · rw [if_neg h]; exact h2
theorem Kq_od {d : Nat} {f : Nat → Option (Int32 × MS)} {w : KT} (h : ∀ e, Kq (f e) w) : Kq (od d f) w := by
  cases d with
  | zero => exact Kq_no _
  | succ e => exact h e
theorem kq_copied : ∀ (k b : Nat) (L : Nat → Int32) (σ : MS), Kq (x_copied k b L σ) (kq σ) := by
  intro k
  induction k with
  | zero => intro b L σ; exact Kq_no _
  | succ k ih =>
    intro b L σ
    match b with
    | 0 =>
      refine Kq_eq (by rw [x_copied]) ?_
      exact Kq_ite (Kq_c rfl (ih _ _ _)) (Kq_so rfl)
    | 1 =>
      refine Kq_eq (by rw [x_copied]) ?_
      exact Kq_ite (Kq_ite (Kq_ite (Kq_so rfl) (Kq_no _)) (Kq_c rfl (ih _ _ _))) (Kq_no _)
    | 2 =>
      refine Kq_eq (by rw [x_copied]) ?_
      exact Kq_ite (Kq_c rfl (ih _ _ _)) (Kq_no _)
    | 3 =>
      refine Kq_eq (by rw [x_copied]) ?_
      exact Kq_c rfl (ih _ _ _)
    | 4 =>
      refine Kq_eq (by rw [x_copied]) ?_
      exact Kq_ite (Kq_c rfl (ih _ _ _)) (Kq_ite (Kq_ite (Kq_c rfl (ih _ _ _)) (Kq_no _)) (Kq_no _))
    | 5 =>
      refine Kq_eq (by rw [x_copied]) ?_
      exact Kq_c rfl (ih _ _ _)
    | 6 =>
      refine Kq_eq (by rw [x_copied]) ?_
      exact Kq_ite (Kq_c rfl (ih _ _ _)) (Kq_no _)
    | 7 =>
      refine Kq_eq (by rw [x_copied]) ?_
      exact Kq_ite (Kq_c rfl (ih _ _ _)) (Kq_no _)
    | 8 =>
      refine Kq_eq (by rw [x_copied]) ?_
      exact Kq_so rfl
    | b + 9 =>
      refine Kq_eq (by rw [x_copied]) (Kq_no _)
theorem kq_copyRow__29 : ∀ (k b : Nat) (L : Nat → Int32) (σ : MS), Kq (x_copyRow__29 k b L σ) (kq σ) := by
  intro k
  induction k with
  | zero => intro b L σ; exact Kq_no _
  | succ k ih =>
    intro b L σ
    match b with
    | 0 =>
      refine Kq_eq (by rw [x_copyRow__29]) ?_
      exact Kq_c rfl (ih _ _ _)
    | 1 =>
      refine Kq_eq (by rw [x_copyRow__29]) ?_
      exact Kq_ite (Kq_c rfl (ih _ _ _)) (Kq_ite (Kq_ob (Kq_c rfl (kq_copied _ _ _ _)) (fun _ h1 => Kq_ite (Kq_c h1 (ih _ _ _)) (Kq_no _))) (Kq_no _))
    | 2 =>
      refine Kq_eq (by rw [x_copyRow__29]) ?_
      exact Kq_c rfl (ih _ _ _)
    | 3 =>
      refine Kq_eq (by rw [x_copyRow__29]) ?_
      exact Kq_so rfl
    | b + 4 =>
      refine Kq_eq (by rw [x_copyRow__29]) (Kq_no _)
theorem kq_copyRow__30 : ∀ (k b : Nat) (L : Nat → Int32) (σ : MS), Kq (x_copyRow__30 k b L σ) (kq σ) := by
  intro k
  induction k with
  | zero => intro b L σ; exact Kq_no _
  | succ k ih =>
    intro b L σ
    match b with
    | 0 =>
      refine Kq_eq (by rw [x_copyRow__30]) ?_
      exact Kq_c rfl (ih _ _ _)
    | 1 =>
      refine Kq_eq (by rw [x_copyRow__30]) ?_
      exact Kq_ite (Kq_c rfl (ih _ _ _)) (Kq_ite (Kq_ob (Kq_c rfl (kq_copied _ _ _ _)) (fun _ h2 => Kq_ite (Kq_c h2 (ih _ _ _)) (Kq_no _))) (Kq_no _))
    | 2 =>
      refine Kq_eq (by rw [x_copyRow__30]) ?_
      exact Kq_c rfl (ih _ _ _)
    | 3 =>
      refine Kq_eq (by rw [x_copyRow__30]) ?_
      exact Kq_so rfl
    | b + 4 =>
      refine Kq_eq (by rw [x_copyRow__30]) (Kq_no _)
theorem kq_copyState__30 : ∀ (k b : Nat) (L : Nat → Int32) (σ : MS), Kq (x_copyState__30 k b L σ) (kq σ) := by
  intro k
  induction k with
  | zero => intro b L σ; exact Kq_no _
  | succ k ih =>
    intro b L σ
    match b with
    | 0 =>
      refine Kq_eq (by rw [x_copyState__30]) ?_
      exact Kq_ob (Kq_c rfl (kq_copyRow__30 _ _ _ _)) (fun _ h3 => Kq_ite (Kq_ob (Kq_c h3 (kq_copyRow__30 _ _ _ _)) (fun _ h4 => Kq_ite (Kq_ob (Kq_c h4 (kq_copyRow__30 _ _ _ _)) (fun _ h5 => Kq_so h5)) (Kq_no _))) (Kq_no _))
    | b + 1 =>
      refine Kq_eq (by rw [x_copyState__30]) (Kq_no _)
theorem kq_copyRow__31 : ∀ (k b : Nat) (L : Nat → Int32) (σ : MS), Kq (x_copyRow__31 k b L σ) (kq σ) := by
  intro k
  induction k with
  | zero => intro b L σ; exact Kq_no _
  | succ k ih =>
    intro b L σ
    match b with
    | 0 =>
      refine Kq_eq (by rw [x_copyRow__31]) ?_
      exact Kq_c rfl (ih _ _ _)
    | 1 =>
      refine Kq_eq (by rw [x_copyRow__31]) ?_
      exact Kq_ite (Kq_c rfl (ih _ _ _)) (Kq_ite (Kq_ob (Kq_c rfl (kq_copied _ _ _ _)) (fun _ h6 => Kq_ite (Kq_c h6 (ih _ _ _)) (Kq_no _))) (Kq_no _))
    | 2 =>
      refine Kq_eq (by rw [x_copyRow__31]) ?_
      exact Kq_c rfl (ih _ _ _)
    | 3 =>
      refine Kq_eq (by rw [x_copyRow__31]) ?_
      exact Kq_so rfl
    | b + 4 =>
      refine Kq_eq (by rw [x_copyRow__31]) (Kq_no _)
theorem kq_copyState__31 : ∀ (k b : Nat) (L : Nat → Int32) (σ : MS), Kq (x_copyState__31 k b L σ) (kq σ) := by
  intro k
  induction k with
  | zero => intro b L σ; exact Kq_no _
  | succ k ih =>
    intro b L σ
    match b with
    | 0 =>
      refine Kq_eq (by rw [x_copyState__31]) ?_
      exact Kq_ob (Kq_c rfl (kq_copyRow__31 _ _ _ _)) (fun _ h7 => Kq_ite (Kq_ob (Kq_c h7 (kq_copyRow__31 _ _ _ _)) (fun _ h8 => Kq_ite (Kq_ob (Kq_c h8 (kq_copyRow__31 _ _ _ _)) (fun _ h9 => Kq_so h9)) (Kq_no _))) (Kq_no _))
    | b + 1 =>
      refine Kq_eq (by rw [x_copyState__31]) (Kq_no _)
theorem kq_copyRow__33 : ∀ (k b : Nat) (L : Nat → Int32) (σ : MS), Kq (x_copyRow__33 k b L σ) (kq σ) := by
  intro k
  induction k with
  | zero => intro b L σ; exact Kq_no _
  | succ k ih =>
    intro b L σ
    match b with
    | 0 =>
      refine Kq_eq (by rw [x_copyRow__33]) ?_
      exact Kq_c rfl (ih _ _ _)
    | 1 =>
      refine Kq_eq (by rw [x_copyRow__33]) ?_
      exact Kq_ite (Kq_c rfl (ih _ _ _)) (Kq_ite (Kq_ob (Kq_c rfl (kq_copied _ _ _ _)) (fun _ h10 => Kq_ite (Kq_c h10 (ih _ _ _)) (Kq_no _))) (Kq_no _))
    | 2 =>
      refine Kq_eq (by rw [x_copyRow__33]) ?_
      exact Kq_c rfl (ih _ _ _)
    | 3 =>
      refine Kq_eq (by rw [x_copyRow__33]) ?_
      exact Kq_so rfl
    | b + 4 =>
      refine Kq_eq (by rw [x_copyRow__33]) (Kq_no _)
theorem kq_copyRow__34 : ∀ (k b : Nat) (L : Nat → Int32) (σ : MS), Kq (x_copyRow__34 k b L σ) (kq σ) := by
  intro k
  induction k with
  | zero => intro b L σ; exact Kq_no _
  | succ k ih =>
    intro b L σ
    match b with
    | 0 =>
      refine Kq_eq (by rw [x_copyRow__34]) ?_
      exact Kq_c rfl (ih _ _ _)
    | 1 =>
      refine Kq_eq (by rw [x_copyRow__34]) ?_
      exact Kq_ite (Kq_c rfl (ih _ _ _)) (Kq_ite (Kq_ob (Kq_c rfl (kq_copied _ _ _ _)) (fun _ h11 => Kq_ite (Kq_c h11 (ih _ _ _)) (Kq_no _))) (Kq_no _))
    | 2 =>
      refine Kq_eq (by rw [x_copyRow__34]) ?_
      exact Kq_c rfl (ih _ _ _)
    | 3 =>
      refine Kq_eq (by rw [x_copyRow__34]) ?_
      exact Kq_so rfl
    | b + 4 =>
      refine Kq_eq (by rw [x_copyRow__34]) (Kq_no _)
theorem kq_copyRow__36 : ∀ (k b : Nat) (L : Nat → Int32) (σ : MS), Kq (x_copyRow__36 k b L σ) (kq σ) := by
  intro k
  induction k with
  | zero => intro b L σ; exact Kq_no _
  | succ k ih =>
    intro b L σ
    match b with
    | 0 =>
      refine Kq_eq (by rw [x_copyRow__36]) ?_
      exact Kq_c rfl (ih _ _ _)
    | 1 =>
      refine Kq_eq (by rw [x_copyRow__36]) ?_
      exact Kq_ite (Kq_c rfl (ih _ _ _)) (Kq_ite (Kq_ob (Kq_c rfl (kq_copied _ _ _ _)) (fun _ h12 => Kq_ite (Kq_c h12 (ih _ _ _)) (Kq_no _))) (Kq_no _))
    | 2 =>
      refine Kq_eq (by rw [x_copyRow__36]) ?_
      exact Kq_c rfl (ih _ _ _)
    | 3 =>
      refine Kq_eq (by rw [x_copyRow__36]) ?_
      exact Kq_so rfl
    | b + 4 =>
      refine Kq_eq (by rw [x_copyRow__36]) (Kq_no _)
theorem kq_copyRow__37 : ∀ (k b : Nat) (L : Nat → Int32) (σ : MS), Kq (x_copyRow__37 k b L σ) (kq σ) := by
  intro k
  induction k with
  | zero => intro b L σ; exact Kq_no _
  | succ k ih =>
    intro b L σ
    match b with
    | 0 =>
      refine Kq_eq (by rw [x_copyRow__37]) ?_
      exact Kq_c rfl (ih _ _ _)
    | 1 =>
      refine Kq_eq (by rw [x_copyRow__37]) ?_
      exact Kq_ite (Kq_c rfl (ih _ _ _)) (Kq_ite (Kq_ob (Kq_c rfl (kq_copied _ _ _ _)) (fun _ h13 => Kq_ite (Kq_c h13 (ih _ _ _)) (Kq_no _))) (Kq_no _))
    | 2 =>
      refine Kq_eq (by rw [x_copyRow__37]) ?_
      exact Kq_c rfl (ih _ _ _)
    | 3 =>
      refine Kq_eq (by rw [x_copyRow__37]) ?_
      exact Kq_so rfl
    | b + 4 =>
      refine Kq_eq (by rw [x_copyRow__37]) (Kq_no _)
theorem kq_copyRow__38 : ∀ (k b : Nat) (L : Nat → Int32) (σ : MS), Kq (x_copyRow__38 k b L σ) (kq σ) := by
  intro k
  induction k with
  | zero => intro b L σ; exact Kq_no _
  | succ k ih =>
    intro b L σ
    match b with
    | 0 =>
      refine Kq_eq (by rw [x_copyRow__38]) ?_
      exact Kq_c rfl (ih _ _ _)
    | 1 =>
      refine Kq_eq (by rw [x_copyRow__38]) ?_
      exact Kq_ite (Kq_c rfl (ih _ _ _)) (Kq_ite (Kq_ob (Kq_c rfl (kq_copied _ _ _ _)) (fun _ h14 => Kq_ite (Kq_c h14 (ih _ _ _)) (Kq_no _))) (Kq_no _))
    | 2 =>
      refine Kq_eq (by rw [x_copyRow__38]) ?_
      exact Kq_c rfl (ih _ _ _)
    | 3 =>
      refine Kq_eq (by rw [x_copyRow__38]) ?_
      exact Kq_so rfl
    | b + 4 =>
      refine Kq_eq (by rw [x_copyRow__38]) (Kq_no _)
theorem kq_copyRow__40 : ∀ (k b : Nat) (L : Nat → Int32) (σ : MS), Kq (x_copyRow__40 k b L σ) (kq σ) := by
  intro k
  induction k with
  | zero => intro b L σ; exact Kq_no _
  | succ k ih =>
    intro b L σ
    match b with
    | 0 =>
      refine Kq_eq (by rw [x_copyRow__40]) ?_
      exact Kq_c rfl (ih _ _ _)
    | 1 =>
      refine Kq_eq (by rw [x_copyRow__40]) ?_
      exact Kq_ite (Kq_c rfl (ih _ _ _)) (Kq_ite (Kq_ob (Kq_c rfl (kq_copied _ _ _ _)) (fun _ h15 => Kq_ite (Kq_c h15 (ih _ _ _)) (Kq_no _))) (Kq_no _))
    | 2 =>
      refine Kq_eq (by rw [x_copyRow__40]) ?_
      exact Kq_c rfl (ih _ _ _)
    | 3 =>
      refine Kq_eq (by rw [x_copyRow__40]) ?_
      exact Kq_so rfl
    | b + 4 =>
      refine Kq_eq (by rw [x_copyRow__40]) (Kq_no _)
theorem kq_copyRow__28 : ∀ (k b : Nat) (L : Nat → Int32) (σ : MS), Kq (x_copyRow__28 k b L σ) (kq σ) := by
  intro k
  induction k with
  | zero => intro b L σ; exact Kq_no _
  | succ k ih =>
    intro b L σ
    match b with
    | 0 =>
      refine Kq_eq (by rw [x_copyRow__28]) ?_
      exact Kq_c rfl (ih _ _ _)
    | 1 =>
      refine Kq_eq (by rw [x_copyRow__28]) ?_
      exact Kq_ite (Kq_c rfl (ih _ _ _)) (Kq_ite (Kq_ob (Kq_c rfl (kq_copied _ _ _ _)) (fun _ h16 => Kq_ite (Kq_c h16 (ih _ _ _)) (Kq_no _))) (Kq_no _))
    | 2 =>
      refine Kq_eq (by rw [x_copyRow__28]) ?_
      exact Kq_c rfl (ih _ _ _)
    | 3 =>
      refine Kq_eq (by rw [x_copyRow__28]) ?_
      exact Kq_so rfl
    | b + 4 =>
      refine Kq_eq (by rw [x_copyRow__28]) (Kq_no _)
theorem kq_sweep : ∀ (k b : Nat) (L : Nat → Int32) (σ : MS), Kq (x_sweep k b L σ) (kq σ) := by
  intro k
  induction k with
  | zero => intro b L σ; exact Kq_no _
  | succ k ih =>
    intro b L σ
    match b with
    | 0 =>
      refine Kq_eq (by rw [x_sweep]) ?_
      exact Kq_ite (Kq_c rfl (ih _ _ _)) (Kq_so rfl)
    | 1 =>
      refine Kq_eq (by rw [x_sweep]) ?_
      exact Kq_ite (Kq_c rfl (ih _ _ _)) (Kq_c rfl (ih _ _ _))
    | 2 =>
      refine Kq_eq (by rw [x_sweep]) ?_
      exact Kq_c rfl (ih _ _ _)
    | 3 =>
      refine Kq_eq (by rw [x_sweep]) ?_
      exact Kq_c rfl (ih _ _ _)
    | 4 =>
      refine Kq_eq (by rw [x_sweep]) ?_
      exact Kq_c rfl (ih _ _ _)
    | 5 =>
      refine Kq_eq (by rw [x_sweep]) ?_
      exact Kq_ob (Kq_c rfl (kq_copyRow__29 _ _ _ _)) (fun _ h17 => Kq_ob (Kq_c h17 (kq_copyState__30 _ _ _ _)) (fun _ h18 => Kq_c h18 (ih _ _ _)))
    | 6 =>
      refine Kq_eq (by rw [x_sweep]) ?_
      exact Kq_ite (Kq_c rfl (ih _ _ _)) (Kq_ob (Kq_c rfl (kq_copyState__31 _ _ _ _)) (fun _ h19 => Kq_c h19 (ih _ _ _)))
    | 7 =>
      refine Kq_eq (by rw [x_sweep]) ?_
      exact Kq_ob (Kq_c rfl (kq_copyRow__33 _ _ _ _)) (fun _ h20 => Kq_ob (Kq_c h20 (kq_copyRow__34 _ _ _ _)) (fun _ h21 => Kq_ob (Kq_c h21 (kq_copyRow__36 _ _ _ _)) (fun _ h22 => Kq_ob (Kq_c h22 (kq_copyRow__37 _ _ _ _)) (fun _ h23 => Kq_ob (Kq_c h23 (kq_copyRow__38 _ _ _ _)) (fun _ h24 => Kq_ob (Kq_c h24 (kq_copyRow__40 _ _ _ _)) (fun _ h25 => Kq_c h25 (ih _ _ _)))))))
    | 8 =>
      refine Kq_eq (by rw [x_sweep]) ?_
      exact Kq_ite (Kq_c rfl (ih _ _ _)) (Kq_ite (Kq_ite (Kq_ite (Kq_c rfl (ih _ _ _)) (Kq_ite (Kq_c rfl (ih _ _ _)) (Kq_c rfl (ih _ _ _)))) (Kq_no _)) (Kq_no _))
    | 9 =>
      refine Kq_eq (by rw [x_sweep]) ?_
      exact Kq_ob (Kq_c rfl (kq_copyRow__28 _ _ _ _)) (fun _ h26 => Kq_c h26 (ih _ _ _))
    | 10 =>
      refine Kq_eq (by rw [x_sweep]) ?_
      exact Kq_c rfl (ih _ _ _)
    | 11 =>
      refine Kq_eq (by rw [x_sweep]) ?_
      exact Kq_so rfl
    | b + 12 =>
      refine Kq_eq (by rw [x_sweep]) (Kq_no _)
theorem kq_fail : ∀ (k b : Nat) (L : Nat → Int32) (σ : MS), Kq (x_fail k b L σ) (kq σ) := by
  intro k
  induction k with
  | zero => intro b L σ; exact Kq_no _
  | succ k ih =>
    intro b L σ
    match b with
    | 0 =>
      refine Kq_eq (by rw [x_fail]) ?_
      exact Kq_ite (Kq_c rfl (ih _ _ _)) (Kq_c rfl (ih _ _ _))
    | 1 =>
      refine Kq_eq (by rw [x_fail]) ?_
      exact Kq_c rfl (ih _ _ _)
    | 2 =>
      refine Kq_eq (by rw [x_fail]) ?_
      exact Kq_so rfl
    | b + 3 =>
      refine Kq_eq (by rw [x_fail]) (Kq_no _)
theorem kq_make : ∀ (k b : Nat) (L : Nat → Int32) (σ : MS), Kq (x_make k b L σ) (kq σ) := by
  intro k
  induction k with
  | zero => intro b L σ; exact Kq_no _
  | succ k ih =>
    intro b L σ
    match b with
    | 0 =>
      refine Kq_eq (by rw [x_make]) ?_
      exact Kq_ite (Kq_c rfl (ih _ _ _)) (Kq_ob (Kq_c rfl (kq_fail _ _ _ _)) (fun _ h27 => Kq_so h27))
    | 1 =>
      refine Kq_eq (by rw [x_make]) ?_
      exact Kq_c rfl (ih _ _ _)
    | 2 =>
      refine Kq_eq (by rw [x_make]) ?_
      exact Kq_ite (Kq_c rfl (ih _ _ _)) (Kq_no _)
    | 3 =>
      refine Kq_eq (by rw [x_make]) ?_
      exact Kq_ite (Kq_c rfl (ih _ _ _)) (Kq_no _)
    | 4 =>
      refine Kq_eq (by rw [x_make]) ?_
      exact Kq_ite (Kq_c rfl (ih _ _ _)) (Kq_no _)
    | 5 =>
      refine Kq_eq (by rw [x_make]) ?_
      exact Kq_ite (Kq_c rfl (ih _ _ _)) (Kq_no _)
    | 6 =>
      refine Kq_eq (by rw [x_make]) ?_
      exact Kq_so rfl
    | b + 7 =>
      refine Kq_eq (by rw [x_make]) (Kq_no _)
theorem kq_wholeOf : ∀ (k b : Nat) (L : Nat → Int32) (σ : MS), Kq (x_wholeOf k b L σ) (kq σ) := by
  intro k
  induction k with
  | zero => intro b L σ; exact Kq_no _
  | succ k ih =>
    intro b L σ
    match b with
    | 0 =>
      refine Kq_eq (by rw [x_wholeOf]) ?_
      exact Kq_ite (Kq_c rfl (ih _ _ _)) (Kq_ite (Kq_ite (Kq_c rfl (ih _ _ _)) (Kq_c rfl (ih _ _ _))) (Kq_no _))
    | 1 =>
      refine Kq_eq (by rw [x_wholeOf]) ?_
      exact Kq_ite (Kq_c rfl (ih _ _ _)) (Kq_ob (Kq_c rfl (kq_fail _ _ _ _)) (fun _ h28 => Kq_so h28))
    | 2 =>
      refine Kq_eq (by rw [x_wholeOf]) ?_
      exact Kq_ob (Kq_c rfl (kq_make _ _ _ _)) (fun _ h29 => Kq_ite (Kq_c h29 (ih _ _ _)) (Kq_so h29))
    | 3 =>
      refine Kq_eq (by rw [x_wholeOf]) ?_
      exact Kq_ite (Kq_c rfl (ih _ _ _)) (Kq_c rfl (ih _ _ _))
    | 4 =>
      refine Kq_eq (by rw [x_wholeOf]) ?_
      exact Kq_c rfl (ih _ _ _)
    | 5 =>
      refine Kq_eq (by rw [x_wholeOf]) ?_
      exact Kq_ite (Kq_c rfl (ih _ _ _)) (Kq_no _)
    | 6 =>
      refine Kq_eq (by rw [x_wholeOf]) ?_
      exact Kq_c rfl (ih _ _ _)
    | 7 =>
      refine Kq_eq (by rw [x_wholeOf]) ?_
      exact Kq_ite (Kq_c rfl (ih _ _ _)) (Kq_ite (Kq_ite (Kq_c rfl (ih _ _ _)) (Kq_no _)) (Kq_no _))
    | 8 =>
      refine Kq_eq (by rw [x_wholeOf]) ?_
      exact Kq_c rfl (ih _ _ _)
    | 9 =>
      refine Kq_eq (by rw [x_wholeOf]) ?_
      exact Kq_ite (Kq_no _) (Kq_ite (Kq_c rfl (ih _ _ _)) (Kq_no _))
    | 10 =>
      refine Kq_eq (by rw [x_wholeOf]) ?_
      exact Kq_so rfl
    | b + 11 =>
      refine Kq_eq (by rw [x_wholeOf]) (Kq_no _)
theorem kq_literal : ∀ (k b : Nat) (L : Nat → Int32) (σ : MS), Kq (x_literal k b L σ) (kq σ) := by
  intro k
  induction k with
  | zero => intro b L σ; exact Kq_no _
  | succ k ih =>
    intro b L σ
    match b with
    | 0 =>
      refine Kq_eq (by rw [x_literal]) ?_
      exact Kq_c rfl (ih _ _ _)
    | 1 =>
      refine Kq_eq (by rw [x_literal]) ?_
      exact Kq_c rfl (ih _ _ _)
    | 2 =>
      refine Kq_eq (by rw [x_literal]) ?_
      exact Kq_ite (Kq_c rfl (ih _ _ _)) (Kq_ite (Kq_c rfl (ih _ _ _)) (Kq_no _))
    | 3 =>
      refine Kq_eq (by rw [x_literal]) ?_
      exact Kq_ite (Kq_c rfl (ih _ _ _)) (Kq_ite (Kq_ite (Kq_c rfl (ih _ _ _)) (Kq_no _)) (Kq_no _))
    | 4 =>
      refine Kq_eq (by rw [x_literal]) ?_
      exact Kq_c rfl (ih _ _ _)
    | 5 =>
      refine Kq_eq (by rw [x_literal]) ?_
      exact Kq_ite (Kq_c rfl (ih _ _ _)) (Kq_ite (Kq_c rfl (ih _ _ _)) (Kq_no _))
    | 6 =>
      refine Kq_eq (by rw [x_literal]) ?_
      exact Kq_c rfl (ih _ _ _)
    | 7 =>
      refine Kq_eq (by rw [x_literal]) ?_
      exact Kq_c rfl (ih _ _ _)
    | 8 =>
      refine Kq_eq (by rw [x_literal]) ?_
      exact Kq_ob (Kq_c rfl (kq_wholeOf _ _ _ _)) (fun _ h30 => Kq_so h30)
    | b + 9 =>
      refine Kq_eq (by rw [x_literal]) (Kq_no _)
theorem kq_size : ∀ (k b : Nat) (L : Nat → Int32) (σ : MS), Kq (x_size k b L σ) (kq σ) := by
  intro k
  induction k with
  | zero => intro b L σ; exact Kq_no _
  | succ k ih =>
    intro b L σ
    match b with
    | 0 =>
      refine Kq_eq (by rw [x_size]) ?_
      exact Kq_ite (Kq_c rfl (ih _ _ _)) (Kq_c rfl (ih _ _ _))
    | 1 =>
      refine Kq_eq (by rw [x_size]) ?_
      exact Kq_ite (Kq_c rfl (ih _ _ _)) (Kq_no _)
    | 2 =>
      refine Kq_eq (by rw [x_size]) ?_
      exact Kq_so rfl
    | b + 3 =>
      refine Kq_eq (by rw [x_size]) (Kq_no _)
theorem kq_worked : ∀ (k b : Nat) (L : Nat → Int32) (σ : MS), Kq (x_worked k b L σ) (kq σ) := by
  intro k
  induction k with
  | zero => intro b L σ; exact Kq_no _
  | succ k ih =>
    intro b L σ
    match b with
    | 0 =>
      refine Kq_eq (by rw [x_worked]) ?_
      exact Kq_c rfl (ih _ _ _)
    | 1 =>
      refine Kq_eq (by rw [x_worked]) ?_
      exact Kq_ite (Kq_c rfl (ih _ _ _)) (Kq_ob (Kq_c rfl (kq_fail _ _ _ _)) (fun _ h31 => Kq_c h31 (ih _ _ _)))
    | 2 =>
      refine Kq_eq (by rw [x_worked]) ?_
      exact Kq_so rfl
    | b + 3 =>
      refine Kq_eq (by rw [x_worked]) (Kq_no _)
theorem kq_answer : ∀ (k b : Nat) (L : Nat → Int32) (σ : MS), Kq (x_answer k b L σ) (kq σ) := by
  intro k
  induction k with
  | zero => intro b L σ; exact Kq_no _
  | succ k ih =>
    intro b L σ
    match b with
    | 0 =>
      refine Kq_eq (by rw [x_answer]) ?_
      exact Kq_ite (Kq_ob (Kq_c rfl (kq_size _ _ _ _)) (fun _ h32 => Kq_ob (Kq_c h32 (kq_worked _ _ _ _)) (fun _ h33 => Kq_c h33 (ih _ _ _)))) (Kq_c rfl (ih _ _ _))
    | 1 =>
      refine Kq_eq (by rw [x_answer]) ?_
      exact Kq_so rfl
    | b + 2 =>
      refine Kq_eq (by rw [x_answer]) (Kq_no _)
theorem kq_push : ∀ (k b : Nat) (L : Nat → Int32) (σ : MS), Kq (x_push k b L σ) (kq σ) := by
  intro k
  induction k with
  | zero => intro b L σ; exact Kq_no _
  | succ k ih =>
    intro b L σ
    match b with
    | 0 =>
      refine Kq_eq (by rw [x_push]) ?_
      exact Kq_ite (Kq_c rfl (ih _ _ _)) (Kq_no _)
    | 1 =>
      refine Kq_eq (by rw [x_push]) ?_
      exact Kq_so rfl
    | b + 2 =>
      refine Kq_eq (by rw [x_push]) (Kq_no _)
theorem kq_stringOf__12 : ∀ (k b : Nat) (L : Nat → Int32) (σ : MS), Kq (x_stringOf__12 k b L σ) (kq σ) := by
  intro k
  induction k with
  | zero => intro b L σ; exact Kq_no _
  | succ k ih =>
    intro b L σ
    match b with
    | 0 =>
      refine Kq_eq (by rw [x_stringOf__12]) ?_
      exact Kq_ite (Kq_no _) (Kq_ite (Kq_c rfl (ih _ _ _)) (Kq_ob (Kq_c rfl (kq_fail _ _ _ _)) (fun _ h34 => Kq_so h34)))
    | 1 =>
      refine Kq_eq (by rw [x_stringOf__12]) ?_
      exact Kq_ob (Kq_c rfl (kq_make _ _ _ _)) (fun _ h35 => Kq_c h35 (ih _ _ _))
    | 2 =>
      refine Kq_eq (by rw [x_stringOf__12]) ?_
      exact Kq_ite (Kq_c rfl (ih _ _ _)) (Kq_ite (Kq_ite (Kq_ite (Kq_c rfl (ih _ _ _)) (Kq_no _)) (Kq_no _)) (Kq_c rfl (ih _ _ _)))
    | 3 =>
      refine Kq_eq (by rw [x_stringOf__12]) ?_
      exact Kq_c rfl (ih _ _ _)
    | 4 =>
      refine Kq_eq (by rw [x_stringOf__12]) ?_
      exact Kq_ite (Kq_no _) (Kq_ite (Kq_c rfl (ih _ _ _)) (Kq_no _))
    | 5 =>
      refine Kq_eq (by rw [x_stringOf__12]) ?_
      exact Kq_so rfl
    | b + 6 =>
      refine Kq_eq (by rw [x_stringOf__12]) (Kq_no _)
theorem kq_newAtom : ∀ (k b : Nat) (L : Nat → Int32) (σ : MS), Kq (x_newAtom k b L σ) (kq σ) := by
  intro k
  induction k with
  | zero => intro b L σ; exact Kq_no _
  | succ k ih =>
    intro b L σ
    match b with
    | 0 =>
      refine Kq_eq (by rw [x_newAtom]) ?_
      exact Kq_ite (Kq_ob (Kq_c rfl (kq_fail _ _ _ _)) (fun _ h36 => Kq_so h36)) (Kq_c rfl (ih _ _ _))
    | 1 =>
      refine Kq_eq (by rw [x_newAtom]) ?_
      exact Kq_c rfl (ih _ _ _)
    | 2 =>
      refine Kq_eq (by rw [x_newAtom]) ?_
      exact Kq_ob (Kq_c rfl (kq_make _ _ _ _)) (fun _ h37 => Kq_ite (Kq_c h37 (ih _ _ _)) (Kq_so h37))
    | 3 =>
      refine Kq_eq (by rw [x_newAtom]) ?_
      exact Kq_ite (Kq_c rfl (ih _ _ _)) (Kq_no _)
    | 4 =>
      refine Kq_eq (by rw [x_newAtom]) ?_
      exact Kq_so rfl
    | b + 5 =>
      refine Kq_eq (by rw [x_newAtom]) (Kq_no _)
theorem kq_valueOf : ∀ (k b : Nat) (L : Nat → Int32) (σ : MS), Kq (x_valueOf k b L σ) (kq σ) := by
  intro k
  induction k with
  | zero => intro b L σ; exact Kq_no _
  | succ k ih =>
    intro b L σ
    match b with
    | 0 =>
      refine Kq_eq (by rw [x_valueOf]) ?_
      exact Kq_ite (Kq_ite (Kq_ite (Kq_ite (Kq_so rfl) (Kq_no _)) (Kq_no _)) (Kq_c rfl (ih _ _ _))) (Kq_no _)
    | 1 =>
      refine Kq_eq (by rw [x_valueOf]) ?_
      exact Kq_ite (Kq_c rfl (ih _ _ _)) (Kq_ite (Kq_ite (Kq_c rfl (ih _ _ _)) (Kq_no _)) (Kq_no _))
    | 2 =>
      refine Kq_eq (by rw [x_valueOf]) ?_
      exact Kq_ite (Kq_ite (Kq_ite (Kq_c rfl (ih _ _ _)) (Kq_no _)) (Kq_no _)) (Kq_no _)
    | 3 =>
      refine Kq_eq (by rw [x_valueOf]) ?_
      exact Kq_so rfl
    | b + 4 =>
      refine Kq_eq (by rw [x_valueOf]) (Kq_no _)
theorem kq_pop : ∀ (k b : Nat) (L : Nat → Int32) (σ : MS), Kq (x_pop k b L σ) (kq σ) := by
  intro k
  induction k with
  | zero => intro b L σ; exact Kq_no _
  | succ k ih =>
    intro b L σ
    match b with
    | 0 =>
      refine Kq_eq (by rw [x_pop]) ?_
      exact Kq_c rfl (ih _ _ _)
    | 1 =>
      refine Kq_eq (by rw [x_pop]) ?_
      exact Kq_ite (Kq_so rfl) (Kq_no _)
    | b + 2 =>
      refine Kq_eq (by rw [x_pop]) (Kq_no _)
theorem kq_kind : ∀ (k b : Nat) (L : Nat → Int32) (σ : MS), Kq (x_kind k b L σ) (kq σ) := by
  intro k
  induction k with
  | zero => intro b L σ; exact Kq_no _
  | succ k ih =>
    intro b L σ
    match b with
    | 0 =>
      refine Kq_eq (by rw [x_kind]) ?_
      exact Kq_ite (Kq_c rfl (ih _ _ _)) (Kq_c rfl (ih _ _ _))
    | 1 =>
      refine Kq_eq (by rw [x_kind]) ?_
      exact Kq_ite (Kq_c rfl (ih _ _ _)) (Kq_c rfl (ih _ _ _))
    | 2 =>
      refine Kq_eq (by rw [x_kind]) ?_
      exact Kq_ite (Kq_c rfl (ih _ _ _)) (Kq_no _)
    | 3 =>
      refine Kq_eq (by rw [x_kind]) ?_
      exact Kq_so rfl
    | b + 4 =>
      refine Kq_eq (by rw [x_kind]) (Kq_no _)
theorem kq_wrongKind : ∀ (k b : Nat) (L : Nat → Int32) (σ : MS), Kq (x_wrongKind k b L σ) (kq σ) := by
  intro k
  induction k with
  | zero => intro b L σ; exact Kq_no _
  | succ k ih =>
    intro b L σ
    match b with
    | 0 =>
      refine Kq_eq (by rw [x_wrongKind]) ?_
      exact Kq_ob (Kq_c rfl (kq_fail _ _ _ _)) (fun _ h38 => Kq_so h38)
    | b + 1 =>
      refine Kq_eq (by rw [x_wrongKind]) (Kq_no _)
theorem kq_signOf : ∀ (k b : Nat) (L : Nat → Int32) (σ : MS), Kq (x_signOf k b L σ) (kq σ) := by
  intro k
  induction k with
  | zero => intro b L σ; exact Kq_no _
  | succ k ih =>
    intro b L σ
    match b with
    | 0 =>
      refine Kq_eq (by rw [x_signOf]) ?_
      exact Kq_ite (Kq_so rfl) (Kq_no _)
    | b + 1 =>
      refine Kq_eq (by rw [x_signOf]) (Kq_no _)
theorem kq_loadA : ∀ (k b : Nat) (L : Nat → Int32) (σ : MS), Kq (x_loadA k b L σ) (kq σ) := by
  intro k
  induction k with
  | zero => intro b L σ; exact Kq_no _
  | succ k ih =>
    intro b L σ
    match b with
    | 0 =>
      refine Kq_eq (by rw [x_loadA]) ?_
      exact Kq_ite (Kq_c rfl (ih _ _ _)) (Kq_no _)
    | 1 =>
      refine Kq_eq (by rw [x_loadA]) ?_
      exact Kq_c rfl (ih _ _ _)
    | 2 =>
      refine Kq_eq (by rw [x_loadA]) ?_
      exact Kq_ite (Kq_c rfl (ih _ _ _)) (Kq_ite (Kq_ite (Kq_c rfl (ih _ _ _)) (Kq_no _)) (Kq_no _))
    | 3 =>
      refine Kq_eq (by rw [x_loadA]) ?_
      exact Kq_c rfl (ih _ _ _)
    | 4 =>
      refine Kq_eq (by rw [x_loadA]) ?_
      exact Kq_so rfl
    | b + 5 =>
      refine Kq_eq (by rw [x_loadA]) (Kq_no _)
theorem kq_other : ∀ (k b : Nat) (L : Nat → Int32) (σ : MS), Kq (x_other k b L σ) (kq σ) := by
  intro k
  induction k with
  | zero => intro b L σ; exact Kq_no _
  | succ k ih =>
    intro b L σ
    match b with
    | 0 =>
      refine Kq_eq (by rw [x_other]) ?_
      exact Kq_ob (Kq_c rfl (kq_loadA _ _ _ _)) (fun _ h39 => Kq_c h39 (ih _ _ _))
    | 1 =>
      refine Kq_eq (by rw [x_other]) ?_
      exact Kq_c rfl (ih _ _ _)
    | 2 =>
      refine Kq_eq (by rw [x_other]) ?_
      exact Kq_ite (Kq_c rfl (ih _ _ _)) (Kq_ite (Kq_ite (Kq_c rfl (ih _ _ _)) (Kq_no _)) (Kq_no _))
    | 3 =>
      refine Kq_eq (by rw [x_other]) ?_
      exact Kq_c rfl (ih _ _ _)
    | 4 =>
      refine Kq_eq (by rw [x_other]) ?_
      exact Kq_ob (Kq_c rfl (kq_signOf _ _ _ _)) (fun _ h40 => Kq_ob (Kq_c h40 (kq_wholeOf _ _ _ _)) (fun _ h41 => Kq_so h41))
    | b + 5 =>
      refine Kq_eq (by rw [x_other]) (Kq_no _)
theorem kq_isMap : ∀ (k b : Nat) (L : Nat → Int32) (σ : MS), Kq (x_isMap k b L σ) (kq σ) := by
  intro k
  induction k with
  | zero => intro b L σ; exact Kq_no _
  | succ k ih =>
    intro b L σ
    match b with
    | 0 =>
      refine Kq_eq (by rw [x_isMap]) ?_
      exact Kq_ob (Kq_c rfl (kq_kind _ _ _ _)) (fun _ h42 => Kq_ite (Kq_c h42 (ih _ _ _)) (Kq_c h42 (ih _ _ _)))
    | 1 =>
      refine Kq_eq (by rw [x_isMap]) ?_
      exact Kq_c rfl (ih _ _ _)
    | 2 =>
      refine Kq_eq (by rw [x_isMap]) ?_
      exact Kq_c rfl (ih _ _ _)
    | 3 =>
      refine Kq_eq (by rw [x_isMap]) ?_
      exact Kq_ite (Kq_c rfl (ih _ _ _)) (Kq_ite (Kq_ite (Kq_c rfl (ih _ _ _)) (Kq_ite (Kq_ob (Kq_c rfl (kq_kind _ _ _ _)) (fun _ h43 => Kq_ite (Kq_ite (Kq_ite (Kq_c h43 (ih _ _ _)) (Kq_c h43 (ih _ _ _))) (Kq_no _)) (Kq_c h43 (ih _ _ _)))) (Kq_no _))) (Kq_no _))
    | 4 =>
      refine Kq_eq (by rw [x_isMap]) ?_
      exact Kq_c rfl (ih _ _ _)
    | 5 =>
      refine Kq_eq (by rw [x_isMap]) ?_
      exact Kq_c rfl (ih _ _ _)
    | 6 =>
      refine Kq_eq (by rw [x_isMap]) ?_
      exact Kq_ite (Kq_so rfl) (Kq_no _)
    | b + 7 =>
      refine Kq_eq (by rw [x_isMap]) (Kq_no _)
theorem kq_rank : ∀ (k b : Nat) (L : Nat → Int32) (σ : MS), Kq (x_rank k b L σ) (kq σ) := by
  intro k
  induction k with
  | zero => intro b L σ; exact Kq_no _
  | succ k ih =>
    intro b L σ
    match b with
    | 0 =>
      refine Kq_eq (by rw [x_rank]) ?_
      exact Kq_ite (Kq_c rfl (ih _ _ _)) (Kq_c rfl (ih _ _ _))
    | 1 =>
      refine Kq_eq (by rw [x_rank]) ?_
      exact Kq_ite (Kq_c rfl (ih _ _ _)) (Kq_no _)
    | 2 =>
      refine Kq_eq (by rw [x_rank]) ?_
      exact Kq_so rfl
    | b + 3 =>
      refine Kq_eq (by rw [x_rank]) (Kq_no _)
theorem kq_compareWholes : ∀ (k b : Nat) (L : Nat → Int32) (σ : MS), Kq (x_compareWholes k b L σ) (kq σ) := by
  intro k
  induction k with
  | zero => intro b L σ; exact Kq_no _
  | succ k ih =>
    intro b L σ
    match b with
    | 0 =>
      refine Kq_eq (by rw [x_compareWholes]) ?_
      exact Kq_ob (Kq_c rfl (kq_signOf _ _ _ _)) (fun _ h44 => Kq_ob (Kq_c h44 (kq_signOf _ _ _ _)) (fun _ h45 => Kq_ite (Kq_c h45 (ih _ _ _)) (Kq_ob (Kq_c h45 (kq_signOf _ _ _ _)) (fun _ h46 => Kq_ob (Kq_c h46 (kq_signOf _ _ _ _)) (fun _ h47 => Kq_so h47)))))
    | 1 =>
      refine Kq_eq (by rw [x_compareWholes]) ?_
      exact Kq_ite (Kq_ite (Kq_c rfl (ih _ _ _)) (Kq_no _)) (Kq_no _)
    | 2 =>
      refine Kq_eq (by rw [x_compareWholes]) ?_
      exact Kq_ite (Kq_c rfl (ih _ _ _)) (Kq_ite (Kq_ite (Kq_ite (Kq_c rfl (ih _ _ _)) (Kq_no _)) (Kq_no _)) (Kq_c rfl (ih _ _ _)))
    | 3 =>
      refine Kq_eq (by rw [x_compareWholes]) ?_
      exact Kq_ob (Kq_c rfl (kq_signOf _ _ _ _)) (fun _ h48 => Kq_ite (Kq_c h48 (ih _ _ _)) (Kq_c h48 (ih _ _ _)))
    | 4 =>
      refine Kq_eq (by rw [x_compareWholes]) ?_
      exact Kq_c rfl (ih _ _ _)
    | 5 =>
      refine Kq_eq (by rw [x_compareWholes]) ?_
      exact Kq_so rfl
    | b + 6 =>
      refine Kq_eq (by rw [x_compareWholes]) (Kq_no _)
theorem kq_s_compare {X : Nat → Nat → Nat → (Nat → Int32) → MS → Option (Int32 × MS)} (hX : ∀ e m b L (σ : MS), Kq (X e m b L σ) (kq σ)) (k d b : Nat) (L : Nat → Int32) (σ : MS) : Kq (s_compare X k d b L σ) (kq σ) := by
  match b with
  | 0 => exact Kq_ite (Kq_so rfl) (Kq_c rfl (hX _ _ _ _ _))
  | 1 => exact Kq_ob (Kq_c rfl (kq_rank _ _ _ _)) (fun _ h49 => Kq_ob (Kq_c h49 (kq_rank _ _ _ _)) (fun _ h50 => Kq_ite (Kq_c h50 (hX _ _ _ _ _)) (Kq_so h50)))
  | 2 => exact Kq_ite (Kq_ite (Kq_ob (Kq_c rfl (kq_compareWholes _ _ _ _)) (fun _ h51 => Kq_so h51)) (Kq_c rfl (hX _ _ _ _ _))) (Kq_no _)
  | 3 => exact Kq_ite (Kq_ite (Kq_c rfl (hX _ _ _ _ _)) (Kq_no _)) (Kq_no _)
  | 4 => exact Kq_ite (Kq_c rfl (hX _ _ _ _ _)) (Kq_ite (Kq_c rfl (hX _ _ _ _ _)) (Kq_ite (Kq_c rfl (hX _ _ _ _ _)) (Kq_ite (Kq_c rfl (hX _ _ _ _ _)) (Kq_c rfl (hX _ _ _ _ _)))))
  | 5 => exact Kq_ite (Kq_ite (Kq_od (fun _ => Kq_ob (Kq_c rfl (hX _ _ _ _ _)) (fun _ h52 => Kq_c h52 (hX _ _ _ _ _)))) (Kq_no _)) (Kq_no _)
  | 6 => exact Kq_ite (Kq_ite (Kq_c rfl (hX _ _ _ _ _)) (Kq_no _)) (Kq_no _)
  | 7 => exact Kq_ite (Kq_c rfl (hX _ _ _ _ _)) (Kq_so rfl)
  | 8 => exact Kq_c rfl (hX _ _ _ _ _)
  | 9 => exact Kq_so rfl
  | b + 10 => exact Kq_no _
theorem kq_GC : ∀ (k d m b : Nat) (L : Nat → Int32) (σ : MS), Kq (x_GC k d m b L σ) (kq σ) := by
  intro k
  induction k with
  | zero => intro d m b L σ; exact Kq_no _
  | succ k ih =>
    intro d m b L σ
    match m with
    | 0 => exact kq_s_compare ih k d b L σ
    | m + 1 => exact Kq_no _
theorem kq_compare (k b : Nat) (L : Nat → Int32) (σ : MS) : Kq (x_compare k b L σ) (kq σ) := kq_GC k 40 0 b L σ
theorem kq_merge : ∀ (k b : Nat) (L : Nat → Int32) (σ : MS), Kq (x_merge k b L σ) (kq σ) := by
  intro k
  induction k with
  | zero => intro b L σ; exact Kq_no _
  | succ k ih =>
    intro b L σ
    match b with
    | 0 =>
      refine Kq_eq (by rw [x_merge]) ?_
      exact Kq_c rfl (ih _ _ _)
    | 1 =>
      refine Kq_eq (by rw [x_merge]) ?_
      exact Kq_ite (Kq_c rfl (ih _ _ _)) (Kq_ite (Kq_c rfl (ih _ _ _)) (Kq_ite (Kq_c rfl (ih _ _ _)) (Kq_ite (Kq_ite (Kq_ob (Kq_c rfl (kq_compare _ _ _ _)) (fun _ h53 => Kq_ite (Kq_c h53 (ih _ _ _)) (Kq_c h53 (ih _ _ _)))) (Kq_no _)) (Kq_no _))))
    | 2 =>
      refine Kq_eq (by rw [x_merge]) ?_
      exact Kq_c rfl (ih _ _ _)
    | 3 =>
      refine Kq_eq (by rw [x_merge]) ?_
      exact Kq_c rfl (ih _ _ _)
    | 4 =>
      refine Kq_eq (by rw [x_merge]) ?_
      exact Kq_ite (Kq_c rfl (ih _ _ _)) (Kq_ite (Kq_c rfl (ih _ _ _)) (Kq_no _))
    | 5 =>
      refine Kq_eq (by rw [x_merge]) ?_
      exact Kq_ite (Kq_c rfl (ih _ _ _)) (Kq_no _)
    | 6 =>
      refine Kq_eq (by rw [x_merge]) ?_
      exact Kq_ite (Kq_c rfl (ih _ _ _)) (Kq_no _)
    | 7 =>
      refine Kq_eq (by rw [x_merge]) ?_
      exact Kq_ite (Kq_c rfl (ih _ _ _)) (Kq_c rfl (ih _ _ _))
    | 8 =>
      refine Kq_eq (by rw [x_merge]) ?_
      exact Kq_c rfl (ih _ _ _)
    | 9 =>
      refine Kq_eq (by rw [x_merge]) ?_
      exact Kq_ite (Kq_c rfl (ih _ _ _)) (Kq_c rfl (ih _ _ _))
    | 10 =>
      refine Kq_eq (by rw [x_merge]) ?_
      exact Kq_c rfl (ih _ _ _)
    | 11 =>
      refine Kq_eq (by rw [x_merge]) ?_
      exact Kq_c rfl (ih _ _ _)
    | 12 =>
      refine Kq_eq (by rw [x_merge]) ?_
      exact Kq_so rfl
    | b + 13 =>
      refine Kq_eq (by rw [x_merge]) (Kq_no _)
theorem kq_distinct : ∀ (k b : Nat) (L : Nat → Int32) (σ : MS), Kq (x_distinct k b L σ) (kq σ) := by
  intro k
  induction k with
  | zero => intro b L σ; exact Kq_no _
  | succ k ih =>
    intro b L σ
    match b with
    | 0 =>
      refine Kq_eq (by rw [x_distinct]) ?_
      exact Kq_c rfl (ih _ _ _)
    | 1 =>
      refine Kq_eq (by rw [x_distinct]) ?_
      exact Kq_ite (Kq_c rfl (ih _ _ _)) (Kq_c rfl (ih _ _ _))
    | 2 =>
      refine Kq_eq (by rw [x_distinct]) ?_
      exact Kq_ite (Kq_c rfl (ih _ _ _)) (Kq_ite (Kq_c rfl (ih _ _ _)) (Kq_c rfl (ih _ _ _)))
    | 3 =>
      refine Kq_eq (by rw [x_distinct]) ?_
      exact Kq_c rfl (ih _ _ _)
    | 4 =>
      refine Kq_eq (by rw [x_distinct]) ?_
      exact Kq_ite (Kq_c rfl (ih _ _ _)) (Kq_c rfl (ih _ _ _))
    | 5 =>
      refine Kq_eq (by rw [x_distinct]) ?_
      exact Kq_c rfl (ih _ _ _)
    | 6 =>
      refine Kq_eq (by rw [x_distinct]) ?_
      exact Kq_ob (Kq_c rfl (kq_merge _ _ _ _)) (fun _ h54 => Kq_c h54 (ih _ _ _))
    | 7 =>
      refine Kq_eq (by rw [x_distinct]) ?_
      exact Kq_c rfl (ih _ _ _)
    | 8 =>
      refine Kq_eq (by rw [x_distinct]) ?_
      exact Kq_ite (Kq_c rfl (ih _ _ _)) (Kq_ite (Kq_ite (Kq_c rfl (ih _ _ _)) (Kq_no _)) (Kq_no _))
    | 9 =>
      refine Kq_eq (by rw [x_distinct]) ?_
      exact Kq_c rfl (ih _ _ _)
    | 10 =>
      refine Kq_eq (by rw [x_distinct]) ?_
      exact Kq_c rfl (ih _ _ _)
    | 11 =>
      refine Kq_eq (by rw [x_distinct]) ?_
      exact Kq_c rfl (ih _ _ _)
    | 12 =>
      refine Kq_eq (by rw [x_distinct]) ?_
      exact Kq_ite (Kq_c rfl (ih _ _ _)) (Kq_ite (Kq_c rfl (ih _ _ _)) (Kq_ite (Kq_ite (Kq_ob (Kq_c rfl (kq_compare _ _ _ _)) (fun _ h55 => Kq_ite (Kq_c h55 (ih _ _ _)) (Kq_c h55 (ih _ _ _)))) (Kq_no _)) (Kq_no _)))
    | 13 =>
      refine Kq_eq (by rw [x_distinct]) ?_
      exact Kq_ite (Kq_ite (Kq_c rfl (ih _ _ _)) (Kq_no _)) (Kq_no _)
    | 14 =>
      refine Kq_eq (by rw [x_distinct]) ?_
      exact Kq_c rfl (ih _ _ _)
    | 15 =>
      refine Kq_eq (by rw [x_distinct]) ?_
      exact Kq_c rfl (ih _ _ _)
    | 16 =>
      refine Kq_eq (by rw [x_distinct]) ?_
      exact Kq_so rfl
    | b + 17 =>
      refine Kq_eq (by rw [x_distinct]) (Kq_no _)
theorem kq_height : ∀ (k b : Nat) (L : Nat → Int32) (σ : MS), Kq (x_height k b L σ) (kq σ) := by
  intro k
  induction k with
  | zero => intro b L σ; exact Kq_no _
  | succ k ih =>
    intro b L σ
    match b with
    | 0 =>
      refine Kq_eq (by rw [x_height]) ?_
      exact Kq_ite (Kq_c rfl (ih _ _ _)) (Kq_c rfl (ih _ _ _))
    | 1 =>
      refine Kq_eq (by rw [x_height]) ?_
      exact Kq_ite (Kq_c rfl (ih _ _ _)) (Kq_no _)
    | 2 =>
      refine Kq_eq (by rw [x_height]) ?_
      exact Kq_so rfl
    | b + 3 =>
      refine Kq_eq (by rw [x_height]) (Kq_no _)
theorem kq_checked : ∀ (k b : Nat) (L : Nat → Int32) (σ : MS), Kq (x_checked k b L σ) (kq σ) := by
  intro k
  induction k with
  | zero => intro b L σ; exact Kq_no _
  | succ k ih =>
    intro b L σ
    match b with
    | 0 =>
      refine Kq_eq (by rw [x_checked]) ?_
      exact Kq_ite (Kq_ite (Kq_ite (Kq_c rfl (ih _ _ _)) (Kq_ite (Kq_ite (Kq_c rfl (ih _ _ _)) (Kq_c rfl (ih _ _ _))) (Kq_no _))) (Kq_no _)) (Kq_c rfl (ih _ _ _))
    | 1 =>
      refine Kq_eq (by rw [x_checked]) ?_
      exact Kq_ob (Kq_c rfl (kq_fail _ _ _ _)) (fun _ h56 => Kq_c h56 (ih _ _ _))
    | 2 =>
      refine Kq_eq (by rw [x_checked]) ?_
      exact Kq_ite (Kq_c rfl (ih _ _ _)) (Kq_c rfl (ih _ _ _))
    | 3 =>
      refine Kq_eq (by rw [x_checked]) ?_
      exact Kq_c rfl (ih _ _ _)
    | 4 =>
      refine Kq_eq (by rw [x_checked]) ?_
      exact Kq_so rfl
    | b + 5 =>
      refine Kq_eq (by rw [x_checked]) (Kq_no _)
theorem kq_measured : ∀ (k b : Nat) (L : Nat → Int32) (σ : MS), Kq (x_measured k b L σ) (kq σ) := by
  intro k
  induction k with
  | zero => intro b L σ; exact Kq_no _
  | succ k ih =>
    intro b L σ
    match b with
    | 0 =>
      refine Kq_eq (by rw [x_measured]) ?_
      exact Kq_ite (Kq_c rfl (ih _ _ _)) (Kq_no _)
    | 1 =>
      refine Kq_eq (by rw [x_measured]) ?_
      exact Kq_ite (Kq_c rfl (ih _ _ _)) (Kq_ite (Kq_ob (Kq_c rfl (kq_size _ _ _ _)) (fun _ h57 => Kq_ob (Kq_c h57 (kq_height _ _ _ _)) (fun _ h58 => Kq_ite (Kq_c h58 (ih _ _ _)) (Kq_ob (Kq_c h58 (kq_height _ _ _ _)) (fun _ h59 => Kq_c h59 (ih _ _ _)))))) (Kq_no _))
    | 2 =>
      refine Kq_eq (by rw [x_measured]) ?_
      exact Kq_c rfl (ih _ _ _)
    | 3 =>
      refine Kq_eq (by rw [x_measured]) ?_
      exact Kq_c rfl (ih _ _ _)
    | 4 =>
      refine Kq_eq (by rw [x_measured]) ?_
      exact Kq_ite (Kq_c rfl (ih _ _ _)) (Kq_no _)
    | 5 =>
      refine Kq_eq (by rw [x_measured]) ?_
      exact Kq_ite (Kq_c rfl (ih _ _ _)) (Kq_no _)
    | 6 =>
      refine Kq_eq (by rw [x_measured]) ?_
      exact Kq_ob (Kq_c rfl (kq_checked _ _ _ _)) (fun _ h60 => Kq_so h60)
    | b + 7 =>
      refine Kq_eq (by rw [x_measured]) (Kq_no _)
theorem kq_setOf : ∀ (k b : Nat) (L : Nat → Int32) (σ : MS), Kq (x_setOf k b L σ) (kq σ) := by
  intro k
  induction k with
  | zero => intro b L σ; exact Kq_no _
  | succ k ih =>
    intro b L σ
    match b with
    | 0 =>
      refine Kq_eq (by rw [x_setOf]) ?_
      exact Kq_ob (Kq_c rfl (kq_distinct _ _ _ _)) (fun _ h61 => Kq_c h61 (ih _ _ _))
    | 1 =>
      refine Kq_eq (by rw [x_setOf]) ?_
      exact Kq_ob (Kq_c rfl (kq_make _ _ _ _)) (fun _ h62 => Kq_ite (Kq_c h62 (ih _ _ _)) (Kq_so h62))
    | 2 =>
      refine Kq_eq (by rw [x_setOf]) ?_
      exact Kq_c rfl (ih _ _ _)
    | 3 =>
      refine Kq_eq (by rw [x_setOf]) ?_
      exact Kq_ite (Kq_c rfl (ih _ _ _)) (Kq_ite (Kq_ite (Kq_c rfl (ih _ _ _)) (Kq_no _)) (Kq_no _))
    | 4 =>
      refine Kq_eq (by rw [x_setOf]) ?_
      exact Kq_c rfl (ih _ _ _)
    | 5 =>
      refine Kq_eq (by rw [x_setOf]) ?_
      exact Kq_ob (Kq_c rfl (kq_measured _ _ _ _)) (fun _ h63 => Kq_so h63)
    | b + 6 =>
      refine Kq_eq (by rw [x_setOf]) (Kq_no _)
theorem kq_side : ∀ (k b : Nat) (L : Nat → Int32) (σ : MS), Kq (x_side k b L σ) (kq σ) := by
  intro k
  induction k with
  | zero => intro b L σ; exact Kq_no _
  | succ k ih =>
    intro b L σ
    match b with
    | 0 =>
      refine Kq_eq (by rw [x_side]) ?_
      exact Kq_ob (Kq_c rfl (kq_isMap _ _ _ _)) (fun _ h64 => Kq_ite (Kq_ob (Kq_c h64 (kq_wrongKind _ _ _ _)) (fun _ h65 => Kq_so h65)) (Kq_c h64 (ih _ _ _)))
    | 1 =>
      refine Kq_eq (by rw [x_side]) ?_
      exact Kq_c rfl (ih _ _ _)
    | 2 =>
      refine Kq_eq (by rw [x_side]) ?_
      exact Kq_ite (Kq_ite (Kq_c rfl (ih _ _ _)) (Kq_ite (Kq_ite (Kq_ob (Kq_c rfl (kq_push _ _ _ _)) (fun _ h66 => Kq_c h66 (ih _ _ _))) (Kq_no _)) (Kq_no _))) (Kq_no _)
    | 3 =>
      refine Kq_eq (by rw [x_side]) ?_
      exact Kq_c rfl (ih _ _ _)
    | 4 =>
      refine Kq_eq (by rw [x_side]) ?_
      exact Kq_ite (Kq_c rfl (ih _ _ _)) (Kq_ite (Kq_ite (Kq_ite (Kq_c rfl (ih _ _ _)) (Kq_c rfl (ih _ _ _))) (Kq_no _)) (Kq_c rfl (ih _ _ _)))
    | 5 =>
      refine Kq_eq (by rw [x_side]) ?_
      exact Kq_c rfl (ih _ _ _)
    | 6 =>
      refine Kq_eq (by rw [x_side]) ?_
      exact Kq_c rfl (ih _ _ _)
    | 7 =>
      refine Kq_eq (by rw [x_side]) ?_
      exact Kq_c rfl (ih _ _ _)
    | 8 =>
      refine Kq_eq (by rw [x_side]) ?_
      exact Kq_ite (Kq_c rfl (ih _ _ _)) (Kq_c rfl (ih _ _ _))
    | 9 =>
      refine Kq_eq (by rw [x_side]) ?_
      exact Kq_ob (Kq_c rfl (kq_fail _ _ _ _)) (fun _ h67 => Kq_so h67)
    | 10 =>
      refine Kq_eq (by rw [x_side]) ?_
      exact Kq_ob (Kq_c rfl (kq_setOf _ _ _ _)) (fun _ h68 => Kq_so h68)
    | b + 11 =>
      refine Kq_eq (by rw [x_side]) (Kq_no _)
theorem kq_powerSet : ∀ (k b : Nat) (L : Nat → Int32) (σ : MS), Kq (x_powerSet k b L σ) (kq σ) := by
  intro k
  induction k with
  | zero => intro b L σ; exact Kq_no _
  | succ k ih =>
    intro b L σ
    match b with
    | 0 =>
      refine Kq_eq (by rw [x_powerSet]) ?_
      exact Kq_ob (Kq_c rfl (kq_kind _ _ _ _)) (fun _ h69 => Kq_ite (Kq_c h69 (ih _ _ _)) (Kq_ob (Kq_c h69 (kq_wrongKind _ _ _ _)) (fun _ h70 => Kq_so h70)))
    | 1 =>
      refine Kq_eq (by rw [x_powerSet]) ?_
      exact Kq_ite (Kq_ite (Kq_c rfl (ih _ _ _)) (Kq_ob (Kq_c rfl (kq_fail _ _ _ _)) (fun _ h71 => Kq_so h71))) (Kq_no _)
    | 2 =>
      refine Kq_eq (by rw [x_powerSet]) ?_
      exact Kq_c rfl (ih _ _ _)
    | 3 =>
      refine Kq_eq (by rw [x_powerSet]) ?_
      exact Kq_ite (Kq_c rfl (ih _ _ _)) (Kq_ite (Kq_c rfl (ih _ _ _)) (Kq_c rfl (ih _ _ _)))
    | 4 =>
      refine Kq_eq (by rw [x_powerSet]) ?_
      exact Kq_ite (Kq_c rfl (ih _ _ _)) (Kq_ite (Kq_ite (Kq_ob (Kq_c rfl (kq_push _ _ _ _)) (fun _ h72 => Kq_c h72 (ih _ _ _))) (Kq_no _)) (Kq_c rfl (ih _ _ _)))
    | 5 =>
      refine Kq_eq (by rw [x_powerSet]) ?_
      exact Kq_c rfl (ih _ _ _)
    | 6 =>
      refine Kq_eq (by rw [x_powerSet]) ?_
      exact Kq_ob (Kq_c rfl (kq_setOf _ _ _ _)) (fun _ h73 => Kq_ob (Kq_c h73 (kq_push _ _ _ _)) (fun _ h74 => Kq_c h74 (ih _ _ _)))
    | 7 =>
      refine Kq_eq (by rw [x_powerSet]) ?_
      exact Kq_ite (Kq_ob (Kq_c rfl (kq_setOf _ _ _ _)) (fun _ h75 => Kq_c h75 (ih _ _ _))) (Kq_c rfl (ih _ _ _))
    | 8 =>
      refine Kq_eq (by rw [x_powerSet]) ?_
      exact Kq_c rfl (ih _ _ _)
    | 9 =>
      refine Kq_eq (by rw [x_powerSet]) ?_
      exact Kq_so rfl
    | b + 10 =>
      refine Kq_eq (by rw [x_powerSet]) (Kq_no _)
theorem kq_put : ∀ (k b : Nat) (L : Nat → Int32) (σ : MS), Kq (x_put k b L σ) (kq σ) := by
  intro k
  induction k with
  | zero => intro b L σ; exact Kq_no _
  | succ k ih =>
    intro b L σ
    match b with
    | 0 =>
      refine Kq_eq (by rw [x_put]) ?_
      exact Kq_ite (Kq_c rfl (ih _ _ _)) (Kq_no _)
    | 1 =>
      refine Kq_eq (by rw [x_put]) ?_
      exact Kq_so rfl
    | b + 2 =>
      refine Kq_eq (by rw [x_put]) (Kq_no _)
theorem kq_putWord : ∀ (k b : Nat) (L : Nat → Int32) (σ : MS), Kq (x_putWord k b L σ) (kq σ) := by
  intro k
  induction k with
  | zero => intro b L σ; exact Kq_no _
  | succ k ih =>
    intro b L σ
    match b with
    | 0 =>
      refine Kq_eq (by rw [x_putWord]) ?_
      exact Kq_c rfl (ih _ _ _)
    | 1 =>
      refine Kq_eq (by rw [x_putWord]) ?_
      exact Kq_ite (Kq_c rfl (ih _ _ _)) (Kq_ite (Kq_ite (Kq_c rfl (ih _ _ _)) (Kq_c rfl (ih _ _ _))) (Kq_no _))
    | 2 =>
      refine Kq_eq (by rw [x_putWord]) ?_
      exact Kq_c rfl (ih _ _ _)
    | 3 =>
      refine Kq_eq (by rw [x_putWord]) ?_
      exact Kq_c rfl (ih _ _ _)
    | 4 =>
      refine Kq_eq (by rw [x_putWord]) ?_
      exact Kq_ite (Kq_ite (Kq_c rfl (ih _ _ _)) (Kq_ite (Kq_ob (Kq_c rfl (kq_put _ _ _ _)) (fun _ h76 => Kq_c h76 (ih _ _ _))) (Kq_no _))) (Kq_no _)
    | 5 =>
      refine Kq_eq (by rw [x_putWord]) ?_
      exact Kq_so rfl
    | b + 6 =>
      refine Kq_eq (by rw [x_putWord]) (Kq_no _)
theorem kq_stringOf__48 : ∀ (k b : Nat) (L : Nat → Int32) (σ : MS), Kq (x_stringOf__48 k b L σ) (kq σ) := by
  intro k
  induction k with
  | zero => intro b L σ; exact Kq_no _
  | succ k ih =>
    intro b L σ
    match b with
    | 0 =>
      refine Kq_eq (by rw [x_stringOf__48]) ?_
      exact Kq_ite (Kq_no _) (Kq_ite (Kq_c rfl (ih _ _ _)) (Kq_ob (Kq_c rfl (kq_fail _ _ _ _)) (fun _ h77 => Kq_so h77)))
    | 1 =>
      refine Kq_eq (by rw [x_stringOf__48]) ?_
      exact Kq_ob (Kq_c rfl (kq_make _ _ _ _)) (fun _ h78 => Kq_c h78 (ih _ _ _))
    | 2 =>
      refine Kq_eq (by rw [x_stringOf__48]) ?_
      exact Kq_ite (Kq_c rfl (ih _ _ _)) (Kq_ite (Kq_ite (Kq_ite (Kq_c rfl (ih _ _ _)) (Kq_no _)) (Kq_no _)) (Kq_c rfl (ih _ _ _)))
    | 3 =>
      refine Kq_eq (by rw [x_stringOf__48]) ?_
      exact Kq_c rfl (ih _ _ _)
    | 4 =>
      refine Kq_eq (by rw [x_stringOf__48]) ?_
      exact Kq_ite (Kq_no _) (Kq_ite (Kq_c rfl (ih _ _ _)) (Kq_no _))
    | 5 =>
      refine Kq_eq (by rw [x_stringOf__48]) ?_
      exact Kq_so rfl
    | b + 6 =>
      refine Kq_eq (by rw [x_stringOf__48]) (Kq_no _)
theorem kq_typeOf : ∀ (k b : Nat) (L : Nat → Int32) (σ : MS), Kq (x_typeOf k b L σ) (kq σ) := by
  intro k
  induction k with
  | zero => intro b L σ; exact Kq_no _
  | succ k ih =>
    intro b L σ
    match b with
    | 0 =>
      refine Kq_eq (by rw [x_typeOf]) ?_
      exact Kq_c rfl (ih _ _ _)
    | 1 =>
      refine Kq_eq (by rw [x_typeOf]) ?_
      exact Kq_ob (Kq_c rfl (kq_kind _ _ _ _)) (fun _ h79 => Kq_ob (Kq_c h79 (kq_putWord _ _ _ _)) (fun _ h80 => Kq_ob (Kq_c h80 (kq_stringOf__48 _ _ _ _)) (fun _ h81 => Kq_so h81)))
    | b + 2 =>
      refine Kq_eq (by rw [x_typeOf]) (Kq_no _)
theorem kq_putTruth : ∀ (k b : Nat) (L : Nat → Int32) (σ : MS), Kq (x_putTruth k b L σ) (kq σ) := by
  intro k
  induction k with
  | zero => intro b L σ; exact Kq_no _
  | succ k ih =>
    intro b L σ
    match b with
    | 0 =>
      refine Kq_eq (by rw [x_putTruth]) ?_
      exact Kq_ite (Kq_c rfl (ih _ _ _)) (Kq_c rfl (ih _ _ _))
    | 1 =>
      refine Kq_eq (by rw [x_putTruth]) ?_
      exact Kq_c rfl (ih _ _ _)
    | 2 =>
      refine Kq_eq (by rw [x_putTruth]) ?_
      exact Kq_ob (Kq_c rfl (kq_put _ _ _ _)) (fun _ h82 => Kq_ite (Kq_c h82 (ih _ _ _)) (Kq_c h82 (ih _ _ _)))
    | 3 =>
      refine Kq_eq (by rw [x_putTruth]) ?_
      exact Kq_c rfl (ih _ _ _)
    | 4 =>
      refine Kq_eq (by rw [x_putTruth]) ?_
      exact Kq_ob (Kq_c rfl (kq_put _ _ _ _)) (fun _ h83 => Kq_ite (Kq_c h83 (ih _ _ _)) (Kq_c h83 (ih _ _ _)))
    | 5 =>
      refine Kq_eq (by rw [x_putTruth]) ?_
      exact Kq_c rfl (ih _ _ _)
    | 6 =>
      refine Kq_eq (by rw [x_putTruth]) ?_
      exact Kq_ob (Kq_c rfl (kq_put _ _ _ _)) (fun _ h84 => Kq_ite (Kq_c h84 (ih _ _ _)) (Kq_c h84 (ih _ _ _)))
    | 7 =>
      refine Kq_eq (by rw [x_putTruth]) ?_
      exact Kq_c rfl (ih _ _ _)
    | 8 =>
      refine Kq_eq (by rw [x_putTruth]) ?_
      exact Kq_ob (Kq_c rfl (kq_put _ _ _ _)) (fun _ h85 => Kq_ite (Kq_ob (Kq_c h85 (kq_put _ _ _ _)) (fun _ h86 => Kq_c h86 (ih _ _ _))) (Kq_c h85 (ih _ _ _)))
    | 9 =>
      refine Kq_eq (by rw [x_putTruth]) ?_
      exact Kq_so rfl
    | b + 10 =>
      refine Kq_eq (by rw [x_putTruth]) (Kq_no _)
theorem kq_putWhole : ∀ (k b : Nat) (L : Nat → Int32) (σ : MS), Kq (x_putWhole k b L σ) (kq σ) := by
  intro k
  induction k with
  | zero => intro b L σ; exact Kq_no _
  | succ k ih =>
    intro b L σ
    match b with
    | 0 =>
      refine Kq_eq (by rw [x_putWhole]) ?_
      exact Kq_ob (Kq_c rfl (kq_loadA _ _ _ _)) (fun _ h87 => Kq_ite (Kq_ite (Kq_c h87 (ih _ _ _)) (Kq_no _)) (Kq_c h87 (ih _ _ _)))
    | 1 =>
      refine Kq_eq (by rw [x_putWhole]) ?_
      exact Kq_c rfl (ih _ _ _)
    | 2 =>
      refine Kq_eq (by rw [x_putWhole]) ?_
      exact Kq_ite (Kq_c rfl (ih _ _ _)) (Kq_c rfl (ih _ _ _))
    | 3 =>
      refine Kq_eq (by rw [x_putWhole]) ?_
      exact Kq_ite (Kq_c rfl (ih _ _ _)) (Kq_ite (Kq_ite (Kq_no _) (Kq_ite (Kq_c rfl (ih _ _ _)) (Kq_no _))) (Kq_no _))
    | 4 =>
      refine Kq_eq (by rw [x_putWhole]) ?_
      exact Kq_ite (Kq_no _) (Kq_c rfl (ih _ _ _))
    | 5 =>
      refine Kq_eq (by rw [x_putWhole]) ?_
      exact Kq_ite (Kq_c rfl (ih _ _ _)) (Kq_no _)
    | 6 =>
      refine Kq_eq (by rw [x_putWhole]) ?_
      exact Kq_c rfl (ih _ _ _)
    | 7 =>
      refine Kq_eq (by rw [x_putWhole]) ?_
      exact Kq_ite (Kq_c rfl (ih _ _ _)) (Kq_ite (Kq_ite (Kq_c rfl (ih _ _ _)) (Kq_c rfl (ih _ _ _))) (Kq_no _))
    | 8 =>
      refine Kq_eq (by rw [x_putWhole]) ?_
      exact Kq_c rfl (ih _ _ _)
    | 9 =>
      refine Kq_eq (by rw [x_putWhole]) ?_
      exact Kq_ob (Kq_c rfl (kq_signOf _ _ _ _)) (fun _ h88 => Kq_ite (Kq_c h88 (ih _ _ _)) (Kq_ob (Kq_c h88 (kq_put _ _ _ _)) (fun _ h89 => Kq_c h89 (ih _ _ _))))
    | 10 =>
      refine Kq_eq (by rw [x_putWhole]) ?_
      exact Kq_c rfl (ih _ _ _)
    | 11 =>
      refine Kq_eq (by rw [x_putWhole]) ?_
      exact Kq_ite (Kq_c rfl (ih _ _ _)) (Kq_ite (Kq_ob (Kq_c rfl (kq_put _ _ _ _)) (fun _ h90 => Kq_c h90 (ih _ _ _))) (Kq_no _))
    | 12 =>
      refine Kq_eq (by rw [x_putWhole]) ?_
      exact Kq_so rfl
    | b + 13 =>
      refine Kq_eq (by rw [x_putWhole]) (Kq_no _)
theorem kq_s_putNumber {X : Nat → Nat → Nat → (Nat → Int32) → MS → Option (Int32 × MS)} (hX : ∀ e m b L (σ : MS), Kq (X e m b L σ) (kq σ)) (k d b : Nat) (L : Nat → Int32) (σ : MS) : Kq (s_putNumber X k d b L σ) (kq σ) := by
  match b with
  | 0 => exact Kq_ite (Kq_c rfl (hX _ _ _ _ _)) (Kq_od (fun _ => Kq_ob (Kq_c rfl (hX _ _ _ _ _)) (fun _ h91 => Kq_c h91 (hX _ _ _ _ _))))
  | 1 => exact Kq_ob (Kq_c rfl (kq_put _ _ _ _)) (fun _ h92 => Kq_so h92)
  | b + 2 => exact Kq_no _
theorem kq_GN : ∀ (k d m b : Nat) (L : Nat → Int32) (σ : MS), Kq (x_GN k d m b L σ) (kq σ) := by
  intro k
  induction k with
  | zero => intro d m b L σ; exact Kq_no _
  | succ k ih =>
    intro d m b L σ
    match m with
    | 0 => exact kq_s_putNumber ih k d b L σ
    | m + 1 => exact Kq_no _
theorem kq_putNumber (k b : Nat) (L : Nat → Int32) (σ : MS) : Kq (x_putNumber k b L σ) (kq σ) := kq_GN k 12 0 b L σ
theorem kq_s_print {X : Nat → Nat → Nat → (Nat → Int32) → MS → Option (Int32 × MS)} (hX : ∀ e m b L (σ : MS), Kq (X e m b L σ) (kq σ)) (k d b : Nat) (L : Nat → Int32) (σ : MS) : Kq (s_print X k d b L σ) (kq σ) := by
  match b with
  | 0 => exact Kq_ob (Kq_c rfl (kq_kind _ _ _ _)) (fun _ h93 => Kq_ite (Kq_ob (Kq_c h93 (kq_put _ _ _ _)) (fun _ h94 => Kq_ob (Kq_c h94 (kq_put _ _ _ _)) (fun _ h95 => Kq_c h95 (hX _ _ _ _ _)))) (Kq_c h93 (hX _ _ _ _ _)))
  | 1 => exact Kq_ite (Kq_ite (Kq_c rfl (hX _ _ _ _ _)) (Kq_c rfl (hX _ _ _ _ _))) (Kq_c rfl (hX _ _ _ _ _))
  | 2 => exact Kq_c rfl (hX _ _ _ _ _)
  | 3 => exact Kq_ob (Kq_c rfl (kq_putTruth _ _ _ _)) (fun _ h96 => Kq_c h96 (hX _ _ _ _ _))
  | 4 => exact Kq_ite (Kq_ob (Kq_c rfl (kq_putWhole _ _ _ _)) (fun _ h97 => Kq_c h97 (hX _ _ _ _ _))) (Kq_c rfl (hX _ _ _ _ _))
  | 5 => exact Kq_ite (Kq_ob (Kq_c rfl (kq_put _ _ _ _)) (fun _ h98 => Kq_ite (Kq_ob (Kq_c h98 (kq_putNumber _ _ _ _)) (fun _ h99 => Kq_c h99 (hX _ _ _ _ _))) (Kq_no _))) (Kq_c rfl (hX _ _ _ _ _))
  | 6 => exact Kq_ite (Kq_ite (Kq_ob (Kq_c rfl (kq_put _ _ _ _)) (fun _ h100 => Kq_c h100 (hX _ _ _ _ _))) (Kq_c rfl (hX _ _ _ _ _))) (Kq_c rfl (hX _ _ _ _ _))
  | 7 => exact Kq_c rfl (hX _ _ _ _ _)
  | 8 => exact Kq_ite (Kq_ite (Kq_c rfl (hX _ _ _ _ _)) (Kq_ite (Kq_ob (Kq_c rfl (kq_put _ _ _ _)) (fun _ h101 => Kq_c h101 (hX _ _ _ _ _))) (Kq_no _))) (Kq_no _)
  | 9 => exact Kq_ite (Kq_ob (Kq_c rfl (kq_put _ _ _ _)) (fun _ h102 => Kq_c h102 (hX _ _ _ _ _))) (Kq_c rfl (hX _ _ _ _ _))
  | 10 => exact Kq_ite (Kq_c rfl (hX _ _ _ _ _)) (Kq_c rfl (hX _ _ _ _ _))
  | 11 => exact Kq_c rfl (hX _ _ _ _ _)
  | 12 => exact Kq_ob (Kq_c rfl (kq_put _ _ _ _)) (fun _ h103 => Kq_c h103 (hX _ _ _ _ _))
  | 13 => exact Kq_ite (Kq_ite (Kq_c rfl (hX _ _ _ _ _)) (Kq_ite (Kq_c rfl (hX _ _ _ _ _)) (Kq_ob (Kq_c rfl (kq_put _ _ _ _)) (fun _ h104 => Kq_ob (Kq_c h104 (kq_put _ _ _ _)) (fun _ h105 => Kq_c h105 (hX _ _ _ _ _)))))) (Kq_no _)
  | 14 => exact Kq_ite (Kq_od (fun _ => Kq_ob (Kq_c rfl (hX _ _ _ _ _)) (fun _ h106 => Kq_c h106 (hX _ _ _ _ _)))) (Kq_no _)
  | 15 => exact Kq_ite (Kq_c rfl (hX _ _ _ _ _)) (Kq_c rfl (hX _ _ _ _ _))
  | 16 => exact Kq_c rfl (hX _ _ _ _ _)
  | 17 => exact Kq_ob (Kq_c rfl (kq_put _ _ _ _)) (fun _ h107 => Kq_c h107 (hX _ _ _ _ _))
  | 18 => exact Kq_so rfl
  | b + 19 => exact Kq_no _
theorem kq_GP : ∀ (k d m b : Nat) (L : Nat → Int32) (σ : MS), Kq (x_GP k d m b L σ) (kq σ) := by
  intro k
  induction k with
  | zero => intro d m b L σ; exact Kq_no _
  | succ k ih =>
    intro d m b L σ
    match m with
    | 0 => exact kq_s_print ih k d b L σ
    | m + 1 => exact Kq_no _
theorem kq_print (k b : Nat) (L : Nat → Int32) (σ : MS) : Kq (x_print k b L σ) (kq σ) := kq_GP k 40 0 b L σ
theorem kq_intOf : ∀ (k b : Nat) (L : Nat → Int32) (J : Nat → Int64) (σ : MS), Kq (x_intOf k b L J σ) (kq σ) := by
  intro k
  induction k with
  | zero => intro b L J σ; exact Kq_no _
  | succ k ih =>
    intro b L J σ
    match b with
    | 0 =>
      refine Kq_eq (by rw [x_intOf]) ?_
      exact Kq_ite (Kq_c rfl (ih _ _ _ _)) (Kq_no _)
    | 1 =>
      refine Kq_eq (by rw [x_intOf]) ?_
      exact Kq_ite (Kq_c rfl (ih _ _ _ _)) (Kq_ite (Kq_c rfl (ih _ _ _ _)) (Kq_c rfl (ih _ _ _ _)))
    | 2 =>
      refine Kq_eq (by rw [x_intOf]) ?_
      exact Kq_ite (Kq_c rfl (ih _ _ _ _)) (Kq_no _)
    | 3 =>
      refine Kq_eq (by rw [x_intOf]) ?_
      exact Kq_c rfl (ih _ _ _ _)
    | 4 =>
      refine Kq_eq (by rw [x_intOf]) ?_
      exact Kq_ite (Kq_c rfl (ih _ _ _ _)) (Kq_c rfl (ih _ _ _ _))
    | 5 =>
      refine Kq_eq (by rw [x_intOf]) ?_
      exact Kq_c rfl (ih _ _ _ _)
    | 6 =>
      refine Kq_eq (by rw [x_intOf]) ?_
      exact Kq_ob (Kq_c rfl (kq_signOf _ _ _ _)) (fun _ h108 => Kq_ite (Kq_c h108 (ih _ _ _ _)) (Kq_c h108 (ih _ _ _ _)))
    | 7 =>
      refine Kq_eq (by rw [x_intOf]) ?_
      exact Kq_c rfl (ih _ _ _ _)
    | 8 =>
      refine Kq_eq (by rw [x_intOf]) ?_
      exact Kq_so rfl
    | b + 9 =>
      refine Kq_eq (by rw [x_intOf]) (Kq_no _)
theorem kq_byteString : ∀ (k b : Nat) (L : Nat → Int32) (σ : MS), Kq (x_byteString k b L σ) (kq σ) := by
  intro k
  induction k with
  | zero => intro b L σ; exact Kq_no _
  | succ k ih =>
    intro b L σ
    match b with
    | 0 =>
      refine Kq_eq (by rw [x_byteString]) ?_
      exact Kq_ob (Kq_c rfl (kq_make _ _ _ _)) (fun _ h109 => Kq_ite (Kq_c h109 (ih _ _ _)) (Kq_so h109))
    | 1 =>
      refine Kq_eq (by rw [x_byteString]) ?_
      exact Kq_ite (Kq_c rfl (ih _ _ _)) (Kq_no _)
    | 2 =>
      refine Kq_eq (by rw [x_byteString]) ?_
      exact Kq_ite (Kq_c rfl (ih _ _ _)) (Kq_no _)
    | 3 =>
      refine Kq_eq (by rw [x_byteString]) ?_
      exact Kq_so rfl
    | b + 4 =>
      refine Kq_eq (by rw [x_byteString]) (Kq_no _)
theorem kq_character : ∀ (k b : Nat) (L : Nat → Int32) (σ : MS), Kq (x_character k b L σ) (kq σ) := by
  intro k
  induction k with
  | zero => intro b L σ; exact Kq_no _
  | succ k ih =>
    intro b L σ
    match b with
    | 0 =>
      refine Kq_eq (by rw [x_character]) ?_
      exact Kq_ob (Kq_c rfl (kq_kind _ _ _ _)) (fun _ h110 => Kq_ite (Kq_c h110 (ih _ _ _)) (Kq_ob (Kq_c h110 (kq_wrongKind _ _ _ _)) (fun _ h111 => Kq_so h111)))
    | 1 =>
      refine Kq_eq (by rw [x_character]) ?_
      exact Kq_ob (Kq_c rfl (kq_intOf _ _ _ _ _)) (fun _ h112 => Kq_ite (Kq_c h112 (ih _ _ _)) (Kq_ite (Kq_c h112 (ih _ _ _)) (Kq_c h112 (ih _ _ _))))
    | 2 =>
      refine Kq_eq (by rw [x_character]) ?_
      exact Kq_ob (Kq_c rfl (kq_fail _ _ _ _)) (fun _ h113 => Kq_so h113)
    | 3 =>
      refine Kq_eq (by rw [x_character]) ?_
      exact Kq_ob (Kq_c rfl (kq_byteString _ _ _ _)) (fun _ h114 => Kq_so h114)
    | b + 4 =>
      refine Kq_eq (by rw [x_character]) (Kq_no _)
theorem kq_small : ∀ (k b : Nat) (L : Nat → Int32) (σ : MS), Kq (x_small k b L σ) (kq σ) := by
  intro k
  induction k with
  | zero => intro b L σ; exact Kq_no _
  | succ k ih =>
    intro b L σ
    match b with
    | 0 =>
      refine Kq_eq (by rw [x_small]) ?_
      exact Kq_c rfl (ih _ _ _)
    | 1 =>
      refine Kq_eq (by rw [x_small]) ?_
      exact Kq_ite (Kq_c rfl (ih _ _ _)) (Kq_c rfl (ih _ _ _))
    | 2 =>
      refine Kq_eq (by rw [x_small]) ?_
      exact Kq_c rfl (ih _ _ _)
    | 3 =>
      refine Kq_eq (by rw [x_small]) ?_
      exact Kq_c rfl (ih _ _ _)
    | 4 =>
      refine Kq_eq (by rw [x_small]) ?_
      exact Kq_ite (Kq_c rfl (ih _ _ _)) (Kq_ite (Kq_c rfl (ih _ _ _)) (Kq_no _))
    | 5 =>
      refine Kq_eq (by rw [x_small]) ?_
      exact Kq_c rfl (ih _ _ _)
    | 6 =>
      refine Kq_eq (by rw [x_small]) ?_
      exact Kq_ite (Kq_c rfl (ih _ _ _)) (Kq_c rfl (ih _ _ _))
    | 7 =>
      refine Kq_eq (by rw [x_small]) ?_
      exact Kq_c rfl (ih _ _ _)
    | 8 =>
      refine Kq_eq (by rw [x_small]) ?_
      exact Kq_ob (Kq_c rfl (kq_wholeOf _ _ _ _)) (fun _ h115 => Kq_so h115)
    | b + 9 =>
      refine Kq_eq (by rw [x_small]) (Kq_no _)
theorem kq_codeOf : ∀ (k b : Nat) (L : Nat → Int32) (σ : MS), Kq (x_codeOf k b L σ) (kq σ) := by
  intro k
  induction k with
  | zero => intro b L σ; exact Kq_no _
  | succ k ih =>
    intro b L σ
    match b with
    | 0 =>
      refine Kq_eq (by rw [x_codeOf]) ?_
      exact Kq_ob (Kq_c rfl (kq_kind _ _ _ _)) (fun _ h116 => Kq_ite (Kq_c h116 (ih _ _ _)) (Kq_ob (Kq_c h116 (kq_wrongKind _ _ _ _)) (fun _ h117 => Kq_so h117)))
    | 1 =>
      refine Kq_eq (by rw [x_codeOf]) ?_
      exact Kq_ite (Kq_ite (Kq_c rfl (ih _ _ _)) (Kq_ob (Kq_c rfl (kq_fail _ _ _ _)) (fun _ h118 => Kq_so h118))) (Kq_no _)
    | 2 =>
      refine Kq_eq (by rw [x_codeOf]) ?_
      exact Kq_ite (Kq_ob (Kq_c rfl (kq_small _ _ _ _)) (fun _ h119 => Kq_so h119)) (Kq_no _)
    | b + 3 =>
      refine Kq_eq (by rw [x_codeOf]) (Kq_no _)
theorem kq_stringOf__51 : ∀ (k b : Nat) (L : Nat → Int32) (σ : MS), Kq (x_stringOf__51 k b L σ) (kq σ) := by
  intro k
  induction k with
  | zero => intro b L σ; exact Kq_no _
  | succ k ih =>
    intro b L σ
    match b with
    | 0 =>
      refine Kq_eq (by rw [x_stringOf__51]) ?_
      exact Kq_ite (Kq_no _) (Kq_ite (Kq_c rfl (ih _ _ _)) (Kq_ob (Kq_c rfl (kq_fail _ _ _ _)) (fun _ h120 => Kq_so h120)))
    | 1 =>
      refine Kq_eq (by rw [x_stringOf__51]) ?_
      exact Kq_ob (Kq_c rfl (kq_make _ _ _ _)) (fun _ h121 => Kq_c h121 (ih _ _ _))
    | 2 =>
      refine Kq_eq (by rw [x_stringOf__51]) ?_
      exact Kq_ite (Kq_c rfl (ih _ _ _)) (Kq_ite (Kq_ite (Kq_ite (Kq_c rfl (ih _ _ _)) (Kq_no _)) (Kq_no _)) (Kq_c rfl (ih _ _ _)))
    | 3 =>
      refine Kq_eq (by rw [x_stringOf__51]) ?_
      exact Kq_c rfl (ih _ _ _)
    | 4 =>
      refine Kq_eq (by rw [x_stringOf__51]) ?_
      exact Kq_ite (Kq_no _) (Kq_ite (Kq_c rfl (ih _ _ _)) (Kq_no _))
    | 5 =>
      refine Kq_eq (by rw [x_stringOf__51]) ?_
      exact Kq_so rfl
    | b + 6 =>
      refine Kq_eq (by rw [x_stringOf__51]) (Kq_no _)
theorem kq_tupleOf : ∀ (k b : Nat) (L : Nat → Int32) (σ : MS), Kq (x_tupleOf k b L σ) (kq σ) := by
  intro k
  induction k with
  | zero => intro b L σ; exact Kq_no _
  | succ k ih =>
    intro b L σ
    match b with
    | 0 =>
      refine Kq_eq (by rw [x_tupleOf]) ?_
      exact Kq_c rfl (ih _ _ _)
    | 1 =>
      refine Kq_eq (by rw [x_tupleOf]) ?_
      exact Kq_ite (Kq_c rfl (ih _ _ _)) (Kq_ite (Kq_ite (Kq_c rfl (ih _ _ _)) (Kq_c rfl (ih _ _ _))) (Kq_no _))
    | 2 =>
      refine Kq_eq (by rw [x_tupleOf]) ?_
      exact Kq_c rfl (ih _ _ _)
    | 3 =>
      refine Kq_eq (by rw [x_tupleOf]) ?_
      exact Kq_ob (Kq_c rfl (kq_make _ _ _ _)) (fun _ h122 => Kq_ite (Kq_c h122 (ih _ _ _)) (Kq_so h122))
    | 4 =>
      refine Kq_eq (by rw [x_tupleOf]) ?_
      exact Kq_c rfl (ih _ _ _)
    | 5 =>
      refine Kq_eq (by rw [x_tupleOf]) ?_
      exact Kq_ite (Kq_c rfl (ih _ _ _)) (Kq_ite (Kq_ite (Kq_c rfl (ih _ _ _)) (Kq_no _)) (Kq_no _))
    | 6 =>
      refine Kq_eq (by rw [x_tupleOf]) ?_
      exact Kq_c rfl (ih _ _ _)
    | 7 =>
      refine Kq_eq (by rw [x_tupleOf]) ?_
      exact Kq_ob (Kq_c rfl (kq_measured _ _ _ _)) (fun _ h123 => Kq_so h123)
    | b + 8 =>
      refine Kq_eq (by rw [x_tupleOf]) (Kq_no _)
theorem kq_reversed : ∀ (k b : Nat) (L : Nat → Int32) (σ : MS), Kq (x_reversed k b L σ) (kq σ) := by
  intro k
  induction k with
  | zero => intro b L σ; exact Kq_no _
  | succ k ih =>
    intro b L σ
    match b with
    | 0 =>
      refine Kq_eq (by rw [x_reversed]) ?_
      exact Kq_ob (Kq_c rfl (kq_kind _ _ _ _)) (fun _ h124 => Kq_ite (Kq_c h124 (ih _ _ _)) (Kq_ite (Kq_c h124 (ih _ _ _)) (Kq_ob (Kq_c h124 (kq_wrongKind _ _ _ _)) (fun _ h125 => Kq_so h125))))
    | 1 =>
      refine Kq_eq (by rw [x_reversed]) ?_
      exact Kq_ite (Kq_ite (Kq_c rfl (ih _ _ _)) (Kq_c rfl (ih _ _ _))) (Kq_no _)
    | 2 =>
      refine Kq_eq (by rw [x_reversed]) ?_
      exact Kq_ite (Kq_c rfl (ih _ _ _)) (Kq_ite (Kq_ite (Kq_c rfl (ih _ _ _)) (Kq_no _)) (Kq_no _))
    | 3 =>
      refine Kq_eq (by rw [x_reversed]) ?_
      exact Kq_c rfl (ih _ _ _)
    | 4 =>
      refine Kq_eq (by rw [x_reversed]) ?_
      exact Kq_ob (Kq_c rfl (kq_stringOf__51 _ _ _ _)) (fun _ h126 => Kq_so h126)
    | 5 =>
      refine Kq_eq (by rw [x_reversed]) ?_
      exact Kq_c rfl (ih _ _ _)
    | 6 =>
      refine Kq_eq (by rw [x_reversed]) ?_
      exact Kq_ite (Kq_c rfl (ih _ _ _)) (Kq_ite (Kq_ob (Kq_c rfl (kq_push _ _ _ _)) (fun _ h127 => Kq_c h127 (ih _ _ _))) (Kq_no _))
    | 7 =>
      refine Kq_eq (by rw [x_reversed]) ?_
      exact Kq_ob (Kq_c rfl (kq_tupleOf _ _ _ _)) (fun _ h128 => Kq_so h128)
    | b + 8 =>
      refine Kq_eq (by rw [x_reversed]) (Kq_no _)
theorem kq_draw : ∀ (k b : Nat) (L : Nat → Int32) (σ : MS), Kq (x_draw k b L σ) (kq σ) := by
  intro k
  induction k with
  | zero => intro b L σ; exact Kq_no _
  | succ k ih =>
    intro b L σ
    match b with
    | 0 =>
      refine Kq_eq (by rw [x_draw]) ?_
      exact Kq_c rfl (ih _ _ _)
    | 1 =>
      refine Kq_eq (by rw [x_draw]) ?_
      exact Kq_ite (Kq_no _) (Kq_so rfl)
    | b + 2 =>
      refine Kq_eq (by rw [x_draw]) (Kq_no _)
theorem kq_memberAt : ∀ (k b : Nat) (L : Nat → Int32) (σ : MS), Kq (x_memberAt k b L σ) (kq σ) := by
  intro k
  induction k with
  | zero => intro b L σ; exact Kq_no _
  | succ k ih =>
    intro b L σ
    match b with
    | 0 =>
      refine Kq_eq (by rw [x_memberAt]) ?_
      exact Kq_ite (Kq_ite (Kq_ite (Kq_ob (Kq_c rfl (kq_byteString _ _ _ _)) (fun _ h129 => Kq_c h129 (ih _ _ _))) (Kq_no _)) (Kq_c rfl (ih _ _ _))) (Kq_no _)
    | 1 =>
      refine Kq_eq (by rw [x_memberAt]) ?_
      exact Kq_ite (Kq_c rfl (ih _ _ _)) (Kq_no _)
    | 2 =>
      refine Kq_eq (by rw [x_memberAt]) ?_
      exact Kq_so rfl
    | b + 3 =>
      refine Kq_eq (by rw [x_memberAt]) (Kq_no _)
theorem kq_drawn : ∀ (k b : Nat) (L : Nat → Int32) (σ : MS), Kq (x_drawn k b L σ) (kq σ) := by
  intro k
  induction k with
  | zero => intro b L σ; exact Kq_no _
  | succ k ih =>
    intro b L σ
    match b with
    | 0 =>
      refine Kq_eq (by rw [x_drawn]) ?_
      exact Kq_ob (Kq_c rfl (kq_kind _ _ _ _)) (fun _ h130 => Kq_ite (Kq_ite (Kq_ite (Kq_c h130 (ih _ _ _)) (Kq_c h130 (ih _ _ _))) (Kq_no _)) (Kq_c h130 (ih _ _ _)))
    | 1 =>
      refine Kq_eq (by rw [x_drawn]) ?_
      exact Kq_ob (Kq_c rfl (kq_intOf _ _ _ _ _)) (fun _ h131 => Kq_c h131 (ih _ _ _))
    | 2 =>
      refine Kq_eq (by rw [x_drawn]) ?_
      exact Kq_ite (Kq_ite (Kq_ob (Kq_c rfl (kq_signOf _ _ _ _)) (fun _ h132 => Kq_ite (Kq_c h132 (ih _ _ _)) (Kq_ite (Kq_ite (Kq_ite (Kq_ite (Kq_c h132 (ih _ _ _)) (Kq_c h132 (ih _ _ _))) (Kq_no _)) (Kq_c h132 (ih _ _ _))) (Kq_no _)))) (Kq_c rfl (ih _ _ _))) (Kq_no _)
    | 3 =>
      refine Kq_eq (by rw [x_drawn]) ?_
      exact Kq_c rfl (ih _ _ _)
    | 4 =>
      refine Kq_eq (by rw [x_drawn]) ?_
      exact Kq_ite (Kq_c rfl (ih _ _ _)) (Kq_ite (Kq_ite (Kq_c rfl (ih _ _ _)) (Kq_c rfl (ih _ _ _))) (Kq_c rfl (ih _ _ _)))
    | 5 =>
      refine Kq_eq (by rw [x_drawn]) ?_
      exact Kq_ob (Kq_c rfl (kq_fail _ _ _ _)) (fun _ h133 => Kq_so h133)
    | 6 =>
      refine Kq_eq (by rw [x_drawn]) ?_
      exact Kq_ite (Kq_c rfl (ih _ _ _)) (Kq_c rfl (ih _ _ _))
    | 7 =>
      refine Kq_eq (by rw [x_drawn]) ?_
      exact Kq_c rfl (ih _ _ _)
    | 8 =>
      refine Kq_eq (by rw [x_drawn]) ?_
      exact Kq_ob (Kq_c rfl (kq_draw _ _ _ _)) (fun _ h134 => Kq_ob (Kq_c h134 (kq_small _ _ _ _)) (fun _ h135 => Kq_so h135))
    | 9 =>
      refine Kq_eq (by rw [x_drawn]) ?_
      exact Kq_ite (Kq_c rfl (ih _ _ _)) (Kq_ob (Kq_c rfl (kq_wrongKind _ _ _ _)) (fun _ h136 => Kq_so h136))
    | 10 =>
      refine Kq_eq (by rw [x_drawn]) ?_
      exact Kq_ite (Kq_ite (Kq_c rfl (ih _ _ _)) (Kq_c rfl (ih _ _ _))) (Kq_no _)
    | 11 =>
      refine Kq_eq (by rw [x_drawn]) ?_
      exact Kq_ite (Kq_ob (Kq_c rfl (kq_draw _ _ _ _)) (fun _ h137 => Kq_ob (Kq_c h137 (kq_memberAt _ _ _ _)) (fun _ h138 => Kq_c h138 (ih _ _ _)))) (Kq_no _)
    | 12 =>
      refine Kq_eq (by rw [x_drawn]) ?_
      exact Kq_so rfl
    | b + 13 =>
      refine Kq_eq (by rw [x_drawn]) (Kq_no _)
theorem kq_function : ∀ (k b : Nat) (L : Nat → Int32) (σ : MS), Kq (x_function k b L σ) (kq σ) := by
  intro k
  induction k with
  | zero => intro b L σ; exact Kq_no _
  | succ k ih =>
    intro b L σ
    match b with
    | 0 =>
      refine Kq_eq (by rw [x_function]) ?_
      exact Kq_ob (Kq_c rfl (kq_kind _ _ _ _)) (fun _ h139 => Kq_ite (Kq_c h139 (ih _ _ _)) (Kq_ite (Kq_c h139 (ih _ _ _)) (Kq_ite (Kq_c h139 (ih _ _ _)) (Kq_ite (Kq_c h139 (ih _ _ _)) (Kq_ite (Kq_c h139 (ih _ _ _)) (Kq_ite (Kq_c h139 (ih _ _ _)) (Kq_ite (Kq_c h139 (ih _ _ _)) (Kq_ite (Kq_c h139 (ih _ _ _)) (Kq_ite (Kq_c h139 (ih _ _ _)) (Kq_ite (Kq_c h139 (ih _ _ _)) (Kq_ite (Kq_c h139 (ih _ _ _)) (Kq_ite (Kq_c h139 (ih _ _ _)) (Kq_c h139 (ih _ _ _))))))))))))))
    | 1 =>
      refine Kq_eq (by rw [x_function]) ?_
      exact Kq_ite (Kq_c rfl (ih _ _ _)) (Kq_ob (Kq_c rfl (kq_wrongKind _ _ _ _)) (fun _ h140 => Kq_c h140 (ih _ _ _)))
    | 2 =>
      refine Kq_eq (by rw [x_function]) ?_
      exact Kq_ob (Kq_c rfl (kq_signOf _ _ _ _)) (fun _ h141 => Kq_ite (Kq_c h141 (ih _ _ _)) (Kq_ob (Kq_c h141 (kq_other _ _ _ _)) (fun _ h142 => Kq_c h142 (ih _ _ _))))
    | 3 =>
      refine Kq_eq (by rw [x_function]) ?_
      exact Kq_c rfl (ih _ _ _)
    | 4 =>
      refine Kq_eq (by rw [x_function]) ?_
      exact Kq_so rfl
    | 5 =>
      refine Kq_eq (by rw [x_function]) ?_
      exact Kq_ite (Kq_c rfl (ih _ _ _)) (Kq_ob (Kq_c rfl (kq_wrongKind _ _ _ _)) (fun _ h143 => Kq_c h143 (ih _ _ _)))
    | 6 =>
      refine Kq_eq (by rw [x_function]) ?_
      exact Kq_ite (Kq_ite (Kq_c rfl (ih _ _ _)) (Kq_c rfl (ih _ _ _))) (Kq_no _)
    | 7 =>
      refine Kq_eq (by rw [x_function]) ?_
      exact Kq_ite (Kq_c rfl (ih _ _ _)) (Kq_no _)
    | 8 =>
      refine Kq_eq (by rw [x_function]) ?_
      exact Kq_so rfl
    | 9 =>
      refine Kq_eq (by rw [x_function]) ?_
      exact Kq_ob (Kq_c rfl (kq_side _ _ _ _)) (fun _ h144 => Kq_so h144)
    | 10 =>
      refine Kq_eq (by rw [x_function]) ?_
      exact Kq_ob (Kq_c rfl (kq_side _ _ _ _)) (fun _ h145 => Kq_so h145)
    | 11 =>
      refine Kq_eq (by rw [x_function]) ?_
      exact Kq_ob (Kq_c rfl (kq_powerSet _ _ _ _)) (fun _ h146 => Kq_so h146)
    | 12 =>
      refine Kq_eq (by rw [x_function]) ?_
      exact Kq_ob (Kq_c rfl (kq_typeOf _ _ _ _)) (fun _ h147 => Kq_so h147)
    | 13 =>
      refine Kq_eq (by rw [x_function]) ?_
      exact Kq_c rfl (ih _ _ _)
    | 14 =>
      refine Kq_eq (by rw [x_function]) ?_
      exact Kq_ob (Kq_c rfl (kq_print _ _ _ _)) (fun _ h148 => Kq_ob (Kq_c h148 (kq_stringOf__48 _ _ _ _)) (fun _ h149 => Kq_so h149))
    | 15 =>
      refine Kq_eq (by rw [x_function]) ?_
      exact Kq_ob (Kq_c rfl (kq_character _ _ _ _)) (fun _ h150 => Kq_so h150)
    | 16 =>
      refine Kq_eq (by rw [x_function]) ?_
      exact Kq_ob (Kq_c rfl (kq_codeOf _ _ _ _)) (fun _ h151 => Kq_so h151)
    | 17 =>
      refine Kq_eq (by rw [x_function]) ?_
      exact Kq_ob (Kq_c rfl (kq_reversed _ _ _ _)) (fun _ h152 => Kq_so h152)
    | 18 =>
      refine Kq_eq (by rw [x_function]) ?_
      exact Kq_ob (Kq_c rfl (kq_drawn _ _ _ _)) (fun _ h153 => Kq_so h153)
    | b + 19 =>
      refine Kq_eq (by rw [x_function]) (Kq_no _)
theorem kq_negative : ∀ (k b : Nat) (L : Nat → Int32) (σ : MS), Kq (x_negative k b L σ) (kq σ) := by
  intro k
  induction k with
  | zero => intro b L σ; exact Kq_no _
  | succ k ih =>
    intro b L σ
    match b with
    | 0 =>
      refine Kq_eq (by rw [x_negative]) ?_
      exact Kq_ob (Kq_c rfl (kq_kind _ _ _ _)) (fun _ h154 => Kq_ite (Kq_c h154 (ih _ _ _)) (Kq_ob (Kq_c h154 (kq_wrongKind _ _ _ _)) (fun _ h155 => Kq_c h155 (ih _ _ _))))
    | 1 =>
      refine Kq_eq (by rw [x_negative]) ?_
      exact Kq_ob (Kq_c rfl (kq_other _ _ _ _)) (fun _ h156 => Kq_c h156 (ih _ _ _))
    | 2 =>
      refine Kq_eq (by rw [x_negative]) ?_
      exact Kq_so rfl
    | b + 3 =>
      refine Kq_eq (by rw [x_negative]) (Kq_no _)
theorem kq_many : ∀ (k b : Nat) (L : Nat → Int32) (σ : MS), Kq (x_many k b L σ) (kq σ) := by
  intro k
  induction k with
  | zero => intro b L σ; exact Kq_no _
  | succ k ih =>
    intro b L σ
    match b with
    | 0 =>
      refine Kq_eq (by rw [x_many]) ?_
      exact Kq_ob (Kq_c rfl (kq_kind _ _ _ _)) (fun _ h157 => Kq_ite (Kq_c h157 (ih _ _ _)) (Kq_ob (Kq_c h157 (kq_fail _ _ _ _)) (fun _ h158 => Kq_so h158)))
    | 1 =>
      refine Kq_eq (by rw [x_many]) ?_
      exact Kq_ite (Kq_ob (Kq_c rfl (kq_small _ _ _ _)) (fun _ h159 => Kq_so h159)) (Kq_no _)
    | b + 2 =>
      refine Kq_eq (by rw [x_many]) (Kq_no _)
theorem kq_truth : ∀ (k b : Nat) (L : Nat → Int32) (σ : MS), Kq (x_truth k b L σ) (kq σ) := by
  intro k
  induction k with
  | zero => intro b L σ; exact Kq_no _
  | succ k ih =>
    intro b L σ
    match b with
    | 0 =>
      refine Kq_eq (by rw [x_truth]) ?_
      exact Kq_ite (Kq_c rfl (ih _ _ _)) (Kq_c rfl (ih _ _ _))
    | 1 =>
      refine Kq_eq (by rw [x_truth]) ?_
      exact Kq_c rfl (ih _ _ _)
    | 2 =>
      refine Kq_eq (by rw [x_truth]) ?_
      exact Kq_so rfl
    | b + 3 =>
      refine Kq_eq (by rw [x_truth]) (Kq_no _)
theorem kq_turned : ∀ (k b : Nat) (L : Nat → Int32) (σ : MS), Kq (x_turned k b L σ) (kq σ) := by
  intro k
  induction k with
  | zero => intro b L σ; exact Kq_no _
  | succ k ih =>
    intro b L σ
    match b with
    | 0 =>
      refine Kq_eq (by rw [x_turned]) ?_
      exact Kq_ite (Kq_c rfl (ih _ _ _)) (Kq_ite (Kq_c rfl (ih _ _ _)) (Kq_ob (Kq_c rfl (kq_fail _ _ _ _)) (fun _ h160 => Kq_c h160 (ih _ _ _))))
    | 1 =>
      refine Kq_eq (by rw [x_turned]) ?_
      exact Kq_ite (Kq_c rfl (ih _ _ _)) (Kq_c rfl (ih _ _ _))
    | 2 =>
      refine Kq_eq (by rw [x_turned]) ?_
      exact Kq_c rfl (ih _ _ _)
    | 3 =>
      refine Kq_eq (by rw [x_turned]) ?_
      exact Kq_ob (Kq_c rfl (kq_truth _ _ _ _)) (fun _ h161 => Kq_so h161)
    | b + 4 =>
      refine Kq_eq (by rw [x_turned]) (Kq_no _)
theorem kq_loadB : ∀ (k b : Nat) (L : Nat → Int32) (σ : MS), Kq (x_loadB k b L σ) (kq σ) := by
  intro k
  induction k with
  | zero => intro b L σ; exact Kq_no _
  | succ k ih =>
    intro b L σ
    match b with
    | 0 =>
      refine Kq_eq (by rw [x_loadB]) ?_
      exact Kq_ite (Kq_c rfl (ih _ _ _)) (Kq_no _)
    | 1 =>
      refine Kq_eq (by rw [x_loadB]) ?_
      exact Kq_c rfl (ih _ _ _)
    | 2 =>
      refine Kq_eq (by rw [x_loadB]) ?_
      exact Kq_ite (Kq_c rfl (ih _ _ _)) (Kq_ite (Kq_ite (Kq_c rfl (ih _ _ _)) (Kq_no _)) (Kq_no _))
    | 3 =>
      refine Kq_eq (by rw [x_loadB]) ?_
      exact Kq_c rfl (ih _ _ _)
    | 4 =>
      refine Kq_eq (by rw [x_loadB]) ?_
      exact Kq_so rfl
    | b + 5 =>
      refine Kq_eq (by rw [x_loadB]) (Kq_no _)
theorem kq_compareRows__42__43 : ∀ (k b : Nat) (L : Nat → Int32) (σ : MS), Kq (x_compareRows__42__43 k b L σ) (kq σ) := by
  intro k
  induction k with
  | zero => intro b L σ; exact Kq_no _
  | succ k ih =>
    intro b L σ
    match b with
    | 0 =>
      refine Kq_eq (by rw [x_compareRows__42__43]) ?_
      exact Kq_c rfl (ih _ _ _)
    | 1 =>
      refine Kq_eq (by rw [x_compareRows__42__43]) ?_
      exact Kq_ite (Kq_c rfl (ih _ _ _)) (Kq_ite (Kq_ite (Kq_ite (Kq_c rfl (ih _ _ _)) (Kq_no _)) (Kq_no _)) (Kq_c rfl (ih _ _ _)))
    | 2 =>
      refine Kq_eq (by rw [x_compareRows__42__43]) ?_
      exact Kq_so rfl
    | b + 3 =>
      refine Kq_eq (by rw [x_compareRows__42__43]) (Kq_no _)
theorem kq_add : ∀ (k b : Nat) (L : Nat → Int32) (σ : MS), Kq (x_add k b L σ) (kq σ) := by
  intro k
  induction k with
  | zero => intro b L σ; exact Kq_no _
  | succ k ih =>
    intro b L σ
    match b with
    | 0 =>
      refine Kq_eq (by rw [x_add]) ?_
      exact Kq_ob (Kq_c rfl (kq_loadA _ _ _ _)) (fun _ h162 => Kq_ob (Kq_c h162 (kq_loadB _ _ _ _)) (fun _ h163 => Kq_ob (Kq_c h163 (kq_signOf _ _ _ _)) (fun _ h164 => Kq_ob (Kq_c h164 (kq_signOf _ _ _ _)) (fun _ h165 => Kq_ite (Kq_c h165 (ih _ _ _)) (Kq_ite (Kq_c h165 (ih _ _ _)) (Kq_ite (Kq_c h165 (ih _ _ _)) (Kq_c h165 (ih _ _ _))))))))
    | 1 =>
      refine Kq_eq (by rw [x_add]) ?_
      exact Kq_ite (Kq_c rfl (ih _ _ _)) (Kq_c rfl (ih _ _ _))
    | 2 =>
      refine Kq_eq (by rw [x_add]) ?_
      exact Kq_c rfl (ih _ _ _)
    | 3 =>
      refine Kq_eq (by rw [x_add]) ?_
      exact Kq_c rfl (ih _ _ _)
    | 4 =>
      refine Kq_eq (by rw [x_add]) ?_
      exact Kq_c rfl (ih _ _ _)
    | 5 =>
      refine Kq_eq (by rw [x_add]) ?_
      exact Kq_ite (Kq_c rfl (ih _ _ _)) (Kq_ite (Kq_c rfl (ih _ _ _)) (Kq_ite (Kq_c rfl (ih _ _ _)) (Kq_no _)))
    | 6 =>
      refine Kq_eq (by rw [x_add]) ?_
      exact Kq_c rfl (ih _ _ _)
    | 7 =>
      refine Kq_eq (by rw [x_add]) ?_
      exact Kq_ite (Kq_c rfl (ih _ _ _)) (Kq_ite (Kq_c rfl (ih _ _ _)) (Kq_no _))
    | 8 =>
      refine Kq_eq (by rw [x_add]) ?_
      exact Kq_c rfl (ih _ _ _)
    | 9 =>
      refine Kq_eq (by rw [x_add]) ?_
      exact Kq_ite (Kq_c rfl (ih _ _ _)) (Kq_no _)
    | 10 =>
      refine Kq_eq (by rw [x_add]) ?_
      exact Kq_c rfl (ih _ _ _)
    | 11 =>
      refine Kq_eq (by rw [x_add]) ?_
      exact Kq_ite (Kq_c rfl (ih _ _ _)) (Kq_ite (Kq_c rfl (ih _ _ _)) (Kq_no _))
    | 12 =>
      refine Kq_eq (by rw [x_add]) ?_
      exact Kq_c rfl (ih _ _ _)
    | 13 =>
      refine Kq_eq (by rw [x_add]) ?_
      exact Kq_ite (Kq_c rfl (ih _ _ _)) (Kq_c rfl (ih _ _ _))
    | 14 =>
      refine Kq_eq (by rw [x_add]) ?_
      exact Kq_c rfl (ih _ _ _)
    | 15 =>
      refine Kq_eq (by rw [x_add]) ?_
      exact Kq_ob (Kq_c rfl (kq_wholeOf _ _ _ _)) (fun _ h166 => Kq_so h166)
    | 16 =>
      refine Kq_eq (by rw [x_add]) ?_
      exact Kq_ob (Kq_c rfl (kq_compareRows__42__43 _ _ _ _)) (fun _ h167 => Kq_ite (Kq_c h167 (ih _ _ _)) (Kq_c h167 (ih _ _ _)))
    | 17 =>
      refine Kq_eq (by rw [x_add]) ?_
      exact Kq_c rfl (ih _ _ _)
    | 18 =>
      refine Kq_eq (by rw [x_add]) ?_
      exact Kq_c rfl (ih _ _ _)
    | 19 =>
      refine Kq_eq (by rw [x_add]) ?_
      exact Kq_c rfl (ih _ _ _)
    | 20 =>
      refine Kq_eq (by rw [x_add]) ?_
      exact Kq_ite (Kq_c rfl (ih _ _ _)) (Kq_ite (Kq_c rfl (ih _ _ _)) (Kq_ite (Kq_c rfl (ih _ _ _)) (Kq_no _)))
    | 21 =>
      refine Kq_eq (by rw [x_add]) ?_
      exact Kq_c rfl (ih _ _ _)
    | 22 =>
      refine Kq_eq (by rw [x_add]) ?_
      exact Kq_ite (Kq_c rfl (ih _ _ _)) (Kq_ite (Kq_c rfl (ih _ _ _)) (Kq_no _))
    | 23 =>
      refine Kq_eq (by rw [x_add]) ?_
      exact Kq_c rfl (ih _ _ _)
    | 24 =>
      refine Kq_eq (by rw [x_add]) ?_
      exact Kq_ite (Kq_c rfl (ih _ _ _)) (Kq_c rfl (ih _ _ _))
    | 25 =>
      refine Kq_eq (by rw [x_add]) ?_
      exact Kq_c rfl (ih _ _ _)
    | 26 =>
      refine Kq_eq (by rw [x_add]) ?_
      exact Kq_ite (Kq_c rfl (ih _ _ _)) (Kq_c rfl (ih _ _ _))
    | 27 =>
      refine Kq_eq (by rw [x_add]) ?_
      exact Kq_c rfl (ih _ _ _)
    | 28 =>
      refine Kq_eq (by rw [x_add]) ?_
      exact Kq_ite (Kq_c rfl (ih _ _ _)) (Kq_no _)
    | 29 =>
      refine Kq_eq (by rw [x_add]) ?_
      exact Kq_c rfl (ih _ _ _)
    | 30 =>
      refine Kq_eq (by rw [x_add]) ?_
      exact Kq_ite (Kq_c rfl (ih _ _ _)) (Kq_c rfl (ih _ _ _))
    | 31 =>
      refine Kq_eq (by rw [x_add]) ?_
      exact Kq_c rfl (ih _ _ _)
    | 32 =>
      refine Kq_eq (by rw [x_add]) ?_
      exact Kq_ob (Kq_c rfl (kq_wholeOf _ _ _ _)) (fun _ h168 => Kq_so h168)
    | b + 33 =>
      refine Kq_eq (by rw [x_add]) (Kq_no _)
theorem kq_joined : ∀ (k b : Nat) (L : Nat → Int32) (σ : MS), Kq (x_joined k b L σ) (kq σ) := by
  intro k
  induction k with
  | zero => intro b L σ; exact Kq_no _
  | succ k ih =>
    intro b L σ
    match b with
    | 0 =>
      refine Kq_eq (by rw [x_joined]) ?_
      exact Kq_ite (Kq_ite (Kq_c rfl (ih _ _ _)) (Kq_no _)) (Kq_no _)
    | 1 =>
      refine Kq_eq (by rw [x_joined]) ?_
      exact Kq_ite (Kq_c rfl (ih _ _ _)) (Kq_ite (Kq_ite (Kq_c rfl (ih _ _ _)) (Kq_no _)) (Kq_no _))
    | 2 =>
      refine Kq_eq (by rw [x_joined]) ?_
      exact Kq_c rfl (ih _ _ _)
    | 3 =>
      refine Kq_eq (by rw [x_joined]) ?_
      exact Kq_c rfl (ih _ _ _)
    | 4 =>
      refine Kq_eq (by rw [x_joined]) ?_
      exact Kq_ite (Kq_c rfl (ih _ _ _)) (Kq_ite (Kq_ite (Kq_c rfl (ih _ _ _)) (Kq_no _)) (Kq_no _))
    | 5 =>
      refine Kq_eq (by rw [x_joined]) ?_
      exact Kq_c rfl (ih _ _ _)
    | 6 =>
      refine Kq_eq (by rw [x_joined]) ?_
      exact Kq_ob (Kq_c rfl (kq_stringOf__51 _ _ _ _)) (fun _ h169 => Kq_so h169)
    | b + 7 =>
      refine Kq_eq (by rw [x_joined]) (Kq_no _)
theorem kq_plus : ∀ (k b : Nat) (L : Nat → Int32) (σ : MS), Kq (x_plus k b L σ) (kq σ) := by
  intro k
  induction k with
  | zero => intro b L σ; exact Kq_no _
  | succ k ih =>
    intro b L σ
    match b with
    | 0 =>
      refine Kq_eq (by rw [x_plus]) ?_
      exact Kq_ob (Kq_c rfl (kq_kind _ _ _ _)) (fun _ h170 => Kq_ob (Kq_c h170 (kq_kind _ _ _ _)) (fun _ h171 => Kq_ite (Kq_ite (Kq_c h171 (ih _ _ _)) (Kq_ite (Kq_c h171 (ih _ _ _)) (Kq_c h171 (ih _ _ _)))) (Kq_c h171 (ih _ _ _))))
    | 1 =>
      refine Kq_eq (by rw [x_plus]) ?_
      exact Kq_ob (Kq_c rfl (kq_wrongKind _ _ _ _)) (fun _ h172 => Kq_so h172)
    | 2 =>
      refine Kq_eq (by rw [x_plus]) ?_
      exact Kq_ite (Kq_ob (Kq_c rfl (kq_add _ _ _ _)) (fun _ h173 => Kq_so h173)) (Kq_c rfl (ih _ _ _))
    | 3 =>
      refine Kq_eq (by rw [x_plus]) ?_
      exact Kq_ite (Kq_ob (Kq_c rfl (kq_joined _ _ _ _)) (fun _ h174 => Kq_so h174)) (Kq_c rfl (ih _ _ _))
    | 4 =>
      refine Kq_eq (by rw [x_plus]) ?_
      exact Kq_c rfl (ih _ _ _)
    | 5 =>
      refine Kq_eq (by rw [x_plus]) ?_
      exact Kq_ite (Kq_ite (Kq_c rfl (ih _ _ _)) (Kq_ite (Kq_ob (Kq_c rfl (kq_push _ _ _ _)) (fun _ h175 => Kq_c h175 (ih _ _ _))) (Kq_no _))) (Kq_no _)
    | 6 =>
      refine Kq_eq (by rw [x_plus]) ?_
      exact Kq_c rfl (ih _ _ _)
    | 7 =>
      refine Kq_eq (by rw [x_plus]) ?_
      exact Kq_ite (Kq_ite (Kq_c rfl (ih _ _ _)) (Kq_ite (Kq_ob (Kq_c rfl (kq_push _ _ _ _)) (fun _ h176 => Kq_c h176 (ih _ _ _))) (Kq_no _))) (Kq_no _)
    | 8 =>
      refine Kq_eq (by rw [x_plus]) ?_
      exact Kq_ite (Kq_ob (Kq_c rfl (kq_setOf _ _ _ _)) (fun _ h177 => Kq_c h177 (ih _ _ _))) (Kq_c rfl (ih _ _ _))
    | 9 =>
      refine Kq_eq (by rw [x_plus]) ?_
      exact Kq_ob (Kq_c rfl (kq_tupleOf _ _ _ _)) (fun _ h178 => Kq_c h178 (ih _ _ _))
    | 10 =>
      refine Kq_eq (by rw [x_plus]) ?_
      exact Kq_so rfl
    | b + 11 =>
      refine Kq_eq (by rw [x_plus]) (Kq_no _)
theorem kq_has : ∀ (k b : Nat) (L : Nat → Int32) (σ : MS), Kq (x_has k b L σ) (kq σ) := by
  intro k
  induction k with
  | zero => intro b L σ; exact Kq_no _
  | succ k ih =>
    intro b L σ
    match b with
    | 0 =>
      refine Kq_eq (by rw [x_has]) ?_
      exact Kq_ite (Kq_c rfl (ih _ _ _)) (Kq_no _)
    | 1 =>
      refine Kq_eq (by rw [x_has]) ?_
      exact Kq_ite (Kq_c rfl (ih _ _ _)) (Kq_ite (Kq_no _) (Kq_ite (Kq_ob (Kq_c rfl (kq_compare _ _ _ _)) (fun _ h179 => Kq_ite (Kq_so h179) (Kq_c h179 (ih _ _ _)))) (Kq_no _)))
    | 2 =>
      refine Kq_eq (by rw [x_has]) ?_
      exact Kq_ite (Kq_c rfl (ih _ _ _)) (Kq_c rfl (ih _ _ _))
    | 3 =>
      refine Kq_eq (by rw [x_has]) ?_
      exact Kq_c rfl (ih _ _ _)
    | 4 =>
      refine Kq_eq (by rw [x_has]) ?_
      exact Kq_ite (Kq_c rfl (ih _ _ _)) (Kq_c rfl (ih _ _ _))
    | 5 =>
      refine Kq_eq (by rw [x_has]) ?_
      exact Kq_c rfl (ih _ _ _)
    | 6 =>
      refine Kq_eq (by rw [x_has]) ?_
      exact Kq_c rfl (ih _ _ _)
    | 7 =>
      refine Kq_eq (by rw [x_has]) ?_
      exact Kq_so rfl
    | b + 8 =>
      refine Kq_eq (by rw [x_has]) (Kq_no _)
theorem kq_sift : ∀ (k b : Nat) (L : Nat → Int32) (σ : MS), Kq (x_sift k b L σ) (kq σ) := by
  intro k
  induction k with
  | zero => intro b L σ; exact Kq_no _
  | succ k ih =>
    intro b L σ
    match b with
    | 0 =>
      refine Kq_eq (by rw [x_sift]) ?_
      exact Kq_c rfl (ih _ _ _)
    | 1 =>
      refine Kq_eq (by rw [x_sift]) ?_
      exact Kq_ite (Kq_ite (Kq_c rfl (ih _ _ _)) (Kq_ite (Kq_ob (Kq_c rfl (kq_has _ _ _ _)) (fun _ h180 => Kq_ite (Kq_ite (Kq_ob (Kq_c h180 (kq_push _ _ _ _)) (fun _ h181 => Kq_c h181 (ih _ _ _))) (Kq_no _)) (Kq_c h180 (ih _ _ _)))) (Kq_no _))) (Kq_no _)
    | 2 =>
      refine Kq_eq (by rw [x_sift]) ?_
      exact Kq_c rfl (ih _ _ _)
    | 3 =>
      refine Kq_eq (by rw [x_sift]) ?_
      exact Kq_ob (Kq_c rfl (kq_setOf _ _ _ _)) (fun _ h182 => Kq_so h182)
    | b + 4 =>
      refine Kq_eq (by rw [x_sift]) (Kq_no _)
theorem kq_multiply : ∀ (k b : Nat) (L : Nat → Int32) (J : Nat → Int64) (σ : MS), Kq (x_multiply k b L J σ) (kq σ) := by
  intro k
  induction k with
  | zero => intro b L J σ; exact Kq_no _
  | succ k ih =>
    intro b L J σ
    match b with
    | 0 =>
      refine Kq_eq (by rw [x_multiply]) ?_
      exact Kq_ob (Kq_c rfl (kq_loadA _ _ _ _)) (fun _ h183 => Kq_ob (Kq_c h183 (kq_loadB _ _ _ _)) (fun _ h184 => Kq_c h184 (ih _ _ _ _)))
    | 1 =>
      refine Kq_eq (by rw [x_multiply]) ?_
      exact Kq_c rfl (ih _ _ _ _)
    | 2 =>
      refine Kq_eq (by rw [x_multiply]) ?_
      exact Kq_ite (Kq_c rfl (ih _ _ _ _)) (Kq_ite (Kq_c rfl (ih _ _ _ _)) (Kq_no _))
    | 3 =>
      refine Kq_eq (by rw [x_multiply]) ?_
      exact Kq_c rfl (ih _ _ _ _)
    | 4 =>
      refine Kq_eq (by rw [x_multiply]) ?_
      exact Kq_c rfl (ih _ _ _ _)
    | 5 =>
      refine Kq_eq (by rw [x_multiply]) ?_
      exact Kq_ite (Kq_c rfl (ih _ _ _ _)) (Kq_c rfl (ih _ _ _ _))
    | 6 =>
      refine Kq_eq (by rw [x_multiply]) ?_
      exact Kq_ite (Kq_c rfl (ih _ _ _ _)) (Kq_ite (Kq_ite (Kq_ite (Kq_ite (Kq_c rfl (ih _ _ _ _)) (Kq_no _)) (Kq_no _)) (Kq_no _)) (Kq_no _))
    | 7 =>
      refine Kq_eq (by rw [x_multiply]) ?_
      exact Kq_c rfl (ih _ _ _ _)
    | 8 =>
      refine Kq_eq (by rw [x_multiply]) ?_
      exact Kq_ite (Kq_c rfl (ih _ _ _ _)) (Kq_no _)
    | 9 =>
      refine Kq_eq (by rw [x_multiply]) ?_
      exact Kq_c rfl (ih _ _ _ _)
    | 10 =>
      refine Kq_eq (by rw [x_multiply]) ?_
      exact Kq_ob (Kq_c rfl (kq_signOf _ _ _ _)) (fun _ h185 => Kq_ob (Kq_c h185 (kq_signOf _ _ _ _)) (fun _ h186 => Kq_ob (Kq_c h186 (kq_wholeOf _ _ _ _)) (fun _ h187 => Kq_so h187)))
    | b + 11 =>
      refine Kq_eq (by rw [x_multiply]) (Kq_no _)
theorem kq_repeat : ∀ (k b : Nat) (L : Nat → Int32) (σ : MS), Kq (x_repeat k b L σ) (kq σ) := by
  intro k
  induction k with
  | zero => intro b L σ; exact Kq_no _
  | succ k ih =>
    intro b L σ
    match b with
    | 0 =>
      refine Kq_eq (by rw [x_repeat]) ?_
      exact Kq_ob (Kq_c rfl (kq_signOf _ _ _ _)) (fun _ h188 => Kq_ite (Kq_c h188 (ih _ _ _)) (Kq_ob (Kq_c h188 (kq_fail _ _ _ _)) (fun _ h189 => Kq_so h189)))
    | 1 =>
      refine Kq_eq (by rw [x_repeat]) ?_
      exact Kq_ite (Kq_ite (Kq_c rfl (ih _ _ _)) (Kq_c rfl (ih _ _ _))) (Kq_no _)
    | 2 =>
      refine Kq_eq (by rw [x_repeat]) ?_
      exact Kq_ob (Kq_c rfl (kq_intOf _ _ _ _ _)) (fun _ h190 => Kq_c h190 (ih _ _ _))
    | 3 =>
      refine Kq_eq (by rw [x_repeat]) ?_
      exact Kq_ite (Kq_c rfl (ih _ _ _)) (Kq_ob (Kq_c rfl (kq_fail _ _ _ _)) (fun _ h191 => Kq_so h191))
    | 4 =>
      refine Kq_eq (by rw [x_repeat]) ?_
      exact Kq_ite (Kq_ite (Kq_c rfl (ih _ _ _)) (Kq_c rfl (ih _ _ _))) (Kq_no _)
    | 5 =>
      refine Kq_eq (by rw [x_repeat]) ?_
      exact Kq_ite (Kq_c rfl (ih _ _ _)) (Kq_ite (Kq_no _) (Kq_ite (Kq_ite (Kq_c rfl (ih _ _ _)) (Kq_no _)) (Kq_no _)))
    | 6 =>
      refine Kq_eq (by rw [x_repeat]) ?_
      exact Kq_c rfl (ih _ _ _)
    | 7 =>
      refine Kq_eq (by rw [x_repeat]) ?_
      exact Kq_ob (Kq_c rfl (kq_stringOf__51 _ _ _ _)) (fun _ h192 => Kq_so h192)
    | 8 =>
      refine Kq_eq (by rw [x_repeat]) ?_
      exact Kq_c rfl (ih _ _ _)
    | 9 =>
      refine Kq_eq (by rw [x_repeat]) ?_
      exact Kq_ite (Kq_c rfl (ih _ _ _)) (Kq_ite (Kq_no _) (Kq_ite (Kq_ob (Kq_c rfl (kq_push _ _ _ _)) (fun _ h193 => Kq_c h193 (ih _ _ _))) (Kq_no _)))
    | 10 =>
      refine Kq_eq (by rw [x_repeat]) ?_
      exact Kq_ob (Kq_c rfl (kq_tupleOf _ _ _ _)) (fun _ h194 => Kq_so h194)
    | b + 11 =>
      refine Kq_eq (by rw [x_repeat]) (Kq_no _)
theorem kq_rowsTimes : ∀ (k b : Nat) (L : Nat → Int32) (J : Nat → Int64) (σ : MS), Kq (x_rowsTimes k b L J σ) (kq σ) := by
  intro k
  induction k with
  | zero => intro b L J σ; exact Kq_no _
  | succ k ih =>
    intro b L J σ
    match b with
    | 0 =>
      refine Kq_eq (by rw [x_rowsTimes]) ?_
      exact Kq_c rfl (ih _ _ _ _)
    | 1 =>
      refine Kq_eq (by rw [x_rowsTimes]) ?_
      exact Kq_c rfl (ih _ _ _ _)
    | 2 =>
      refine Kq_eq (by rw [x_rowsTimes]) ?_
      exact Kq_ite (Kq_c rfl (ih _ _ _ _)) (Kq_ite (Kq_c rfl (ih _ _ _ _)) (Kq_no _))
    | 3 =>
      refine Kq_eq (by rw [x_rowsTimes]) ?_
      exact Kq_c rfl (ih _ _ _ _)
    | 4 =>
      refine Kq_eq (by rw [x_rowsTimes]) ?_
      exact Kq_c rfl (ih _ _ _ _)
    | 5 =>
      refine Kq_eq (by rw [x_rowsTimes]) ?_
      exact Kq_ite (Kq_c rfl (ih _ _ _ _)) (Kq_c rfl (ih _ _ _ _))
    | 6 =>
      refine Kq_eq (by rw [x_rowsTimes]) ?_
      exact Kq_ite (Kq_c rfl (ih _ _ _ _)) (Kq_ite (Kq_ite (Kq_ite (Kq_ite (Kq_c rfl (ih _ _ _ _)) (Kq_no _)) (Kq_no _)) (Kq_no _)) (Kq_no _))
    | 7 =>
      refine Kq_eq (by rw [x_rowsTimes]) ?_
      exact Kq_c rfl (ih _ _ _ _)
    | 8 =>
      refine Kq_eq (by rw [x_rowsTimes]) ?_
      exact Kq_ite (Kq_c rfl (ih _ _ _ _)) (Kq_no _)
    | 9 =>
      refine Kq_eq (by rw [x_rowsTimes]) ?_
      exact Kq_c rfl (ih _ _ _ _)
    | 10 =>
      refine Kq_eq (by rw [x_rowsTimes]) ?_
      exact Kq_ite (Kq_c rfl (ih _ _ _ _)) (Kq_ite (Kq_ite (Kq_c rfl (ih _ _ _ _)) (Kq_c rfl (ih _ _ _ _))) (Kq_no _))
    | 11 =>
      refine Kq_eq (by rw [x_rowsTimes]) ?_
      exact Kq_so rfl
    | b + 12 =>
      refine Kq_eq (by rw [x_rowsTimes]) (Kq_no _)
theorem kq_raise : ∀ (k b : Nat) (L : Nat → Int32) (σ : MS), Kq (x_raise k b L σ) (kq σ) := by
  intro k
  induction k with
  | zero => intro b L σ; exact Kq_no _
  | succ k ih =>
    intro b L σ
    match b with
    | 0 =>
      refine Kq_eq (by rw [x_raise]) ?_
      exact Kq_ob (Kq_c rfl (kq_signOf _ _ _ _)) (fun _ h195 => Kq_ite (Kq_c h195 (ih _ _ _)) (Kq_ob (Kq_c h195 (kq_fail _ _ _ _)) (fun _ h196 => Kq_so h196)))
    | 1 =>
      refine Kq_eq (by rw [x_raise]) ?_
      exact Kq_ob (Kq_c rfl (kq_intOf _ _ _ _ _)) (fun _ h197 => Kq_ite (Kq_ob (Kq_c h197 (kq_small _ _ _ _)) (fun _ h198 => Kq_so h198)) (Kq_c h197 (ih _ _ _)))
    | 2 =>
      refine Kq_eq (by rw [x_raise]) ?_
      exact Kq_ite (Kq_ite (Kq_c rfl (ih _ _ _)) (Kq_ite (Kq_ite (Kq_c rfl (ih _ _ _)) (Kq_c rfl (ih _ _ _))) (Kq_no _))) (Kq_no _)
    | 3 =>
      refine Kq_eq (by rw [x_raise]) ?_
      exact Kq_c rfl (ih _ _ _)
    | 4 =>
      refine Kq_eq (by rw [x_raise]) ?_
      exact Kq_ite (Kq_ite (Kq_c rfl (ih _ _ _)) (Kq_ite (Kq_ite (Kq_ite (Kq_ite (Kq_c rfl (ih _ _ _)) (Kq_c rfl (ih _ _ _))) (Kq_no _)) (Kq_c rfl (ih _ _ _))) (Kq_no _))) (Kq_no _)
    | 5 =>
      refine Kq_eq (by rw [x_raise]) ?_
      exact Kq_ob (Kq_c rfl (kq_signOf _ _ _ _)) (fun _ h199 => Kq_ite (Kq_c h199 (ih _ _ _)) (Kq_ite (Kq_c h199 (ih _ _ _)) (Kq_c h199 (ih _ _ _))))
    | 6 =>
      refine Kq_eq (by rw [x_raise]) ?_
      exact Kq_c rfl (ih _ _ _)
    | 7 =>
      refine Kq_eq (by rw [x_raise]) ?_
      exact Kq_ob (Kq_c rfl (kq_small _ _ _ _)) (fun _ h200 => Kq_c h200 (ih _ _ _))
    | 8 =>
      refine Kq_eq (by rw [x_raise]) ?_
      exact Kq_so rfl
    | 9 =>
      refine Kq_eq (by rw [x_raise]) ?_
      exact Kq_ob (Kq_c rfl (kq_loadA _ _ _ _)) (fun _ h201 => Kq_c h201 (ih _ _ _))
    | 10 =>
      refine Kq_eq (by rw [x_raise]) ?_
      exact Kq_ite (Kq_c rfl (ih _ _ _)) (Kq_ite (Kq_ite (Kq_c rfl (ih _ _ _)) (Kq_no _)) (Kq_no _))
    | 11 =>
      refine Kq_eq (by rw [x_raise]) ?_
      exact Kq_c rfl (ih _ _ _)
    | 12 =>
      refine Kq_eq (by rw [x_raise]) ?_
      exact Kq_c rfl (ih _ _ _)
    | 13 =>
      refine Kq_eq (by rw [x_raise]) ?_
      exact Kq_ite (Kq_c rfl (ih _ _ _)) (Kq_ite (Kq_ob (Kq_c rfl (kq_rowsTimes _ _ _ _ _)) (fun _ h202 => Kq_ite (Kq_c h202 (ih _ _ _)) (Kq_ob (Kq_c h202 (kq_fail _ _ _ _)) (fun _ h203 => Kq_c h203 (ih _ _ _))))) (Kq_c rfl (ih _ _ _)))
    | 14 =>
      refine Kq_eq (by rw [x_raise]) ?_
      exact Kq_c rfl (ih _ _ _)
    | 15 =>
      refine Kq_eq (by rw [x_raise]) ?_
      exact Kq_ite (Kq_c rfl (ih _ _ _)) (Kq_ite (Kq_ite (Kq_c rfl (ih _ _ _)) (Kq_no _)) (Kq_no _))
    | 16 =>
      refine Kq_eq (by rw [x_raise]) ?_
      exact Kq_c rfl (ih _ _ _)
    | 17 =>
      refine Kq_eq (by rw [x_raise]) ?_
      exact Kq_c rfl (ih _ _ _)
    | 18 =>
      refine Kq_eq (by rw [x_raise]) ?_
      exact Kq_ite (Kq_c rfl (ih _ _ _)) (Kq_so rfl)
    | 19 =>
      refine Kq_eq (by rw [x_raise]) ?_
      exact Kq_c rfl (ih _ _ _)
    | 20 =>
      refine Kq_eq (by rw [x_raise]) ?_
      exact Kq_c rfl (ih _ _ _)
    | 21 =>
      refine Kq_eq (by rw [x_raise]) ?_
      exact Kq_ite (Kq_c rfl (ih _ _ _)) (Kq_ite (Kq_ite (Kq_c rfl (ih _ _ _)) (Kq_no _)) (Kq_no _))
    | 22 =>
      refine Kq_eq (by rw [x_raise]) ?_
      exact Kq_c rfl (ih _ _ _)
    | 23 =>
      refine Kq_eq (by rw [x_raise]) ?_
      exact Kq_ob (Kq_c rfl (kq_signOf _ _ _ _)) (fun _ h204 => Kq_ite (Kq_c h204 (ih _ _ _)) (Kq_ite (Kq_c h204 (ih _ _ _)) (Kq_c h204 (ih _ _ _))))
    | 24 =>
      refine Kq_eq (by rw [x_raise]) ?_
      exact Kq_c rfl (ih _ _ _)
    | 25 =>
      refine Kq_eq (by rw [x_raise]) ?_
      exact Kq_ob (Kq_c rfl (kq_wholeOf _ _ _ _)) (fun _ h205 => Kq_so h205)
    | b + 26 =>
      refine Kq_eq (by rw [x_raise]) (Kq_no _)
theorem kq_compareRows__46__43 : ∀ (k b : Nat) (L : Nat → Int32) (σ : MS), Kq (x_compareRows__46__43 k b L σ) (kq σ) := by
  intro k
  induction k with
  | zero => intro b L σ; exact Kq_no _
  | succ k ih =>
    intro b L σ
    match b with
    | 0 =>
      refine Kq_eq (by rw [x_compareRows__46__43]) ?_
      exact Kq_c rfl (ih _ _ _)
    | 1 =>
      refine Kq_eq (by rw [x_compareRows__46__43]) ?_
      exact Kq_ite (Kq_c rfl (ih _ _ _)) (Kq_ite (Kq_ite (Kq_ite (Kq_c rfl (ih _ _ _)) (Kq_no _)) (Kq_no _)) (Kq_c rfl (ih _ _ _)))
    | 2 =>
      refine Kq_eq (by rw [x_compareRows__46__43]) ?_
      exact Kq_so rfl
    | b + 3 =>
      refine Kq_eq (by rw [x_compareRows__46__43]) (Kq_no _)
theorem kq_divideRows : ∀ (k b : Nat) (L : Nat → Int32) (σ : MS), Kq (x_divideRows k b L σ) (kq σ) := by
  intro k
  induction k with
  | zero => intro b L σ; exact Kq_no _
  | succ k ih =>
    intro b L σ
    match b with
    | 0 =>
      refine Kq_eq (by rw [x_divideRows]) ?_
      exact Kq_c rfl (ih _ _ _)
    | 1 =>
      refine Kq_eq (by rw [x_divideRows]) ?_
      exact Kq_c rfl (ih _ _ _)
    | 2 =>
      refine Kq_eq (by rw [x_divideRows]) ?_
      exact Kq_c rfl (ih _ _ _)
    | 3 =>
      refine Kq_eq (by rw [x_divideRows]) ?_
      exact Kq_ite (Kq_c rfl (ih _ _ _)) (Kq_ite (Kq_c rfl (ih _ _ _)) (Kq_no _))
    | 4 =>
      refine Kq_eq (by rw [x_divideRows]) ?_
      exact Kq_c rfl (ih _ _ _)
    | 5 =>
      refine Kq_eq (by rw [x_divideRows]) ?_
      exact Kq_c rfl (ih _ _ _)
    | 6 =>
      refine Kq_eq (by rw [x_divideRows]) ?_
      exact Kq_ite (Kq_c rfl (ih _ _ _)) (Kq_ite (Kq_c rfl (ih _ _ _)) (Kq_no _))
    | 7 =>
      refine Kq_eq (by rw [x_divideRows]) ?_
      exact Kq_ite (Kq_c rfl (ih _ _ _)) (Kq_ite (Kq_ite (Kq_c rfl (ih _ _ _)) (Kq_no _)) (Kq_no _))
    | 8 =>
      refine Kq_eq (by rw [x_divideRows]) ?_
      exact Kq_c rfl (ih _ _ _)
    | 9 =>
      refine Kq_eq (by rw [x_divideRows]) ?_
      exact Kq_ite (Kq_c rfl (ih _ _ _)) (Kq_ite (Kq_c rfl (ih _ _ _)) (Kq_no _))
    | 10 =>
      refine Kq_eq (by rw [x_divideRows]) ?_
      exact Kq_c rfl (ih _ _ _)
    | 11 =>
      refine Kq_eq (by rw [x_divideRows]) ?_
      exact Kq_ob (Kq_c rfl (kq_compareRows__46__43 _ _ _ _)) (fun _ h206 => Kq_ite (Kq_c h206 (ih _ _ _)) (Kq_c h206 (ih _ _ _)))
    | 12 =>
      refine Kq_eq (by rw [x_divideRows]) ?_
      exact Kq_ite (Kq_c rfl (ih _ _ _)) (Kq_ite (Kq_ite (Kq_c rfl (ih _ _ _)) (Kq_ite (Kq_c rfl (ih _ _ _)) (Kq_no _))) (Kq_no _))
    | 13 =>
      refine Kq_eq (by rw [x_divideRows]) ?_
      exact Kq_c rfl (ih _ _ _)
    | 14 =>
      refine Kq_eq (by rw [x_divideRows]) ?_
      exact Kq_ite (Kq_c rfl (ih _ _ _)) (Kq_c rfl (ih _ _ _))
    | 15 =>
      refine Kq_eq (by rw [x_divideRows]) ?_
      exact Kq_c rfl (ih _ _ _)
    | 16 =>
      refine Kq_eq (by rw [x_divideRows]) ?_
      exact Kq_ite (Kq_c rfl (ih _ _ _)) (Kq_no _)
    | 17 =>
      refine Kq_eq (by rw [x_divideRows]) ?_
      exact Kq_c rfl (ih _ _ _)
    | 18 =>
      refine Kq_eq (by rw [x_divideRows]) ?_
      exact Kq_ite (Kq_c rfl (ih _ _ _)) (Kq_ite (Kq_ite (Kq_c rfl (ih _ _ _)) (Kq_c rfl (ih _ _ _))) (Kq_no _))
    | 19 =>
      refine Kq_eq (by rw [x_divideRows]) ?_
      exact Kq_ite (Kq_ite (Kq_c rfl (ih _ _ _)) (Kq_no _)) (Kq_no _)
    | 20 =>
      refine Kq_eq (by rw [x_divideRows]) ?_
      exact Kq_c rfl (ih _ _ _)
    | 21 =>
      refine Kq_eq (by rw [x_divideRows]) ?_
      exact Kq_so rfl
    | b + 22 =>
      refine Kq_eq (by rw [x_divideRows]) (Kq_no _)
theorem kq_divide : ∀ (k b : Nat) (L : Nat → Int32) (σ : MS), Kq (x_divide k b L σ) (kq σ) := by
  intro k
  induction k with
  | zero => intro b L σ; exact Kq_no _
  | succ k ih =>
    intro b L σ
    match b with
    | 0 =>
      refine Kq_eq (by rw [x_divide]) ?_
      exact Kq_ob (Kq_c rfl (kq_signOf _ _ _ _)) (fun _ h207 => Kq_ite (Kq_ob (Kq_c h207 (kq_fail _ _ _ _)) (fun _ h208 => Kq_so h208)) (Kq_c h207 (ih _ _ _)))
    | 1 =>
      refine Kq_eq (by rw [x_divide]) ?_
      exact Kq_ob (Kq_c rfl (kq_loadA _ _ _ _)) (fun _ h209 => Kq_ob (Kq_c h209 (kq_loadB _ _ _ _)) (fun _ h210 => Kq_ob (Kq_c h210 (kq_divideRows _ _ _ _)) (fun _ h211 => Kq_ob (Kq_c h211 (kq_signOf _ _ _ _)) (fun _ h212 => Kq_ite (Kq_c h212 (ih _ _ _)) (Kq_ite (Kq_c h212 (ih _ _ _)) (Kq_c h212 (ih _ _ _)))))))
    | 2 =>
      refine Kq_eq (by rw [x_divide]) ?_
      exact Kq_c rfl (ih _ _ _)
    | 3 =>
      refine Kq_eq (by rw [x_divide]) ?_
      exact Kq_ite (Kq_c rfl (ih _ _ _)) (Kq_ite (Kq_c rfl (ih _ _ _)) (Kq_c rfl (ih _ _ _)))
    | 4 =>
      refine Kq_eq (by rw [x_divide]) ?_
      exact Kq_c rfl (ih _ _ _)
    | 5 =>
      refine Kq_eq (by rw [x_divide]) ?_
      exact Kq_c rfl (ih _ _ _)
    | 6 =>
      refine Kq_eq (by rw [x_divide]) ?_
      exact Kq_c rfl (ih _ _ _)
    | 7 =>
      refine Kq_eq (by rw [x_divide]) ?_
      exact Kq_ite (Kq_c rfl (ih _ _ _)) (Kq_ite (Kq_c rfl (ih _ _ _)) (Kq_ite (Kq_c rfl (ih _ _ _)) (Kq_no _)))
    | 8 =>
      refine Kq_eq (by rw [x_divide]) ?_
      exact Kq_c rfl (ih _ _ _)
    | 9 =>
      refine Kq_eq (by rw [x_divide]) ?_
      exact Kq_ite (Kq_c rfl (ih _ _ _)) (Kq_ite (Kq_c rfl (ih _ _ _)) (Kq_no _))
    | 10 =>
      refine Kq_eq (by rw [x_divide]) ?_
      exact Kq_c rfl (ih _ _ _)
    | 11 =>
      refine Kq_eq (by rw [x_divide]) ?_
      exact Kq_ite (Kq_c rfl (ih _ _ _)) (Kq_ite (Kq_c rfl (ih _ _ _)) (Kq_c rfl (ih _ _ _)))
    | 12 =>
      refine Kq_eq (by rw [x_divide]) ?_
      exact Kq_c rfl (ih _ _ _)
    | 13 =>
      refine Kq_eq (by rw [x_divide]) ?_
      exact Kq_ite (Kq_c rfl (ih _ _ _)) (Kq_no _)
    | 14 =>
      refine Kq_eq (by rw [x_divide]) ?_
      exact Kq_c rfl (ih _ _ _)
    | 15 =>
      refine Kq_eq (by rw [x_divide]) ?_
      exact Kq_ob (Kq_c rfl (kq_wholeOf _ _ _ _)) (fun _ h213 => Kq_so h213)
    | 16 =>
      refine Kq_eq (by rw [x_divide]) ?_
      exact Kq_c rfl (ih _ _ _)
    | 17 =>
      refine Kq_eq (by rw [x_divide]) ?_
      exact Kq_ite (Kq_c rfl (ih _ _ _)) (Kq_c rfl (ih _ _ _))
    | 18 =>
      refine Kq_eq (by rw [x_divide]) ?_
      exact Kq_c rfl (ih _ _ _)
    | 19 =>
      refine Kq_eq (by rw [x_divide]) ?_
      exact Kq_c rfl (ih _ _ _)
    | 20 =>
      refine Kq_eq (by rw [x_divide]) ?_
      exact Kq_ite (Kq_c rfl (ih _ _ _)) (Kq_ite (Kq_ite (Kq_c rfl (ih _ _ _)) (Kq_no _)) (Kq_no _))
    | 21 =>
      refine Kq_eq (by rw [x_divide]) ?_
      exact Kq_c rfl (ih _ _ _)
    | 22 =>
      refine Kq_eq (by rw [x_divide]) ?_
      exact Kq_ite (Kq_c rfl (ih _ _ _)) (Kq_ite (Kq_c rfl (ih _ _ _)) (Kq_no _))
    | 23 =>
      refine Kq_eq (by rw [x_divide]) ?_
      exact Kq_c rfl (ih _ _ _)
    | 24 =>
      refine Kq_eq (by rw [x_divide]) ?_
      exact Kq_ob (Kq_c rfl (kq_signOf _ _ _ _)) (fun _ h214 => Kq_ob (Kq_c h214 (kq_signOf _ _ _ _)) (fun _ h215 => Kq_ob (Kq_c h215 (kq_wholeOf _ _ _ _)) (fun _ h216 => Kq_so h216)))
    | b + 25 =>
      refine Kq_eq (by rw [x_divide]) (Kq_no _)
theorem kq_isIn : ∀ (k b : Nat) (L : Nat → Int32) (σ : MS), Kq (x_isIn k b L σ) (kq σ) := by
  intro k
  induction k with
  | zero => intro b L σ; exact Kq_no _
  | succ k ih =>
    intro b L σ
    match b with
    | 0 =>
      refine Kq_eq (by rw [x_isIn]) ?_
      exact Kq_ob (Kq_c rfl (kq_kind _ _ _ _)) (fun _ h217 => Kq_ite (Kq_ite (Kq_c h217 (ih _ _ _)) (Kq_ob (Kq_c h217 (kq_has _ _ _ _)) (fun _ h218 => Kq_ite (Kq_c h218 (ih _ _ _)) (Kq_c h218 (ih _ _ _))))) (Kq_c h217 (ih _ _ _)))
    | 1 =>
      refine Kq_eq (by rw [x_isIn]) ?_
      exact Kq_c rfl (ih _ _ _)
    | 2 =>
      refine Kq_eq (by rw [x_isIn]) ?_
      exact Kq_ob (Kq_c rfl (kq_truth _ _ _ _)) (fun _ h219 => Kq_so h219)
    | 3 =>
      refine Kq_eq (by rw [x_isIn]) ?_
      exact Kq_ite (Kq_c rfl (ih _ _ _)) (Kq_c rfl (ih _ _ _))
    | 4 =>
      refine Kq_eq (by rw [x_isIn]) ?_
      exact Kq_ite (Kq_ite (Kq_c rfl (ih _ _ _)) (Kq_ite (Kq_c rfl (ih _ _ _)) (Kq_ite (Kq_ite (Kq_ob (Kq_c rfl (kq_compare _ _ _ _)) (fun _ h220 => Kq_ite (Kq_c h220 (ih _ _ _)) (Kq_c h220 (ih _ _ _)))) (Kq_no _)) (Kq_c rfl (ih _ _ _))))) (Kq_no _)
    | 5 =>
      refine Kq_eq (by rw [x_isIn]) ?_
      exact Kq_c rfl (ih _ _ _)
    | 6 =>
      refine Kq_eq (by rw [x_isIn]) ?_
      exact Kq_c rfl (ih _ _ _)
    | 7 =>
      refine Kq_eq (by rw [x_isIn]) ?_
      exact Kq_c rfl (ih _ _ _)
    | 8 =>
      refine Kq_eq (by rw [x_isIn]) ?_
      exact Kq_ob (Kq_c rfl (kq_truth _ _ _ _)) (fun _ h221 => Kq_so h221)
    | 9 =>
      refine Kq_eq (by rw [x_isIn]) ?_
      exact Kq_ite (Kq_ob (Kq_c rfl (kq_kind _ _ _ _)) (fun _ h222 => Kq_ite (Kq_c h222 (ih _ _ _)) (Kq_c h222 (ih _ _ _)))) (Kq_c rfl (ih _ _ _))
    | 10 =>
      refine Kq_eq (by rw [x_isIn]) ?_
      exact Kq_ob (Kq_c rfl (kq_wrongKind _ _ _ _)) (fun _ h223 => Kq_so h223)
    | 11 =>
      refine Kq_eq (by rw [x_isIn]) ?_
      exact Kq_c rfl (ih _ _ _)
    | 12 =>
      refine Kq_eq (by rw [x_isIn]) ?_
      exact Kq_ite (Kq_ite (Kq_ite (Kq_c rfl (ih _ _ _)) (Kq_ite (Kq_c rfl (ih _ _ _)) (Kq_c rfl (ih _ _ _)))) (Kq_no _)) (Kq_no _)
    | 13 =>
      refine Kq_eq (by rw [x_isIn]) ?_
      exact Kq_ite (Kq_ite (Kq_c rfl (ih _ _ _)) (Kq_ite (Kq_c rfl (ih _ _ _)) (Kq_ite (Kq_ite (Kq_ite (Kq_c rfl (ih _ _ _)) (Kq_c rfl (ih _ _ _))) (Kq_no _)) (Kq_no _)))) (Kq_no _)
    | 14 =>
      refine Kq_eq (by rw [x_isIn]) ?_
      exact Kq_c rfl (ih _ _ _)
    | 15 =>
      refine Kq_eq (by rw [x_isIn]) ?_
      exact Kq_c rfl (ih _ _ _)
    | 16 =>
      refine Kq_eq (by rw [x_isIn]) ?_
      exact Kq_c rfl (ih _ _ _)
    | 17 =>
      refine Kq_eq (by rw [x_isIn]) ?_
      exact Kq_ob (Kq_c rfl (kq_truth _ _ _ _)) (fun _ h224 => Kq_so h224)
    | b + 18 =>
      refine Kq_eq (by rw [x_isIn]) (Kq_no _)
theorem kq_isSubset : ∀ (k b : Nat) (L : Nat → Int32) (σ : MS), Kq (x_isSubset k b L σ) (kq σ) := by
  intro k
  induction k with
  | zero => intro b L σ; exact Kq_no _
  | succ k ih =>
    intro b L σ
    match b with
    | 0 =>
      refine Kq_eq (by rw [x_isSubset]) ?_
      exact Kq_c rfl (ih _ _ _)
    | 1 =>
      refine Kq_eq (by rw [x_isSubset]) ?_
      exact Kq_ite (Kq_ite (Kq_c rfl (ih _ _ _)) (Kq_ite (Kq_c rfl (ih _ _ _)) (Kq_ite (Kq_ob (Kq_c rfl (kq_has _ _ _ _)) (fun _ h225 => Kq_c h225 (ih _ _ _))) (Kq_no _)))) (Kq_no _)
    | 2 =>
      refine Kq_eq (by rw [x_isSubset]) ?_
      exact Kq_ite (Kq_so rfl) (Kq_no _)
    | b + 3 =>
      refine Kq_eq (by rw [x_isSubset]) (Kq_no _)
theorem kq_operate : ∀ (k b : Nat) (L : Nat → Int32) (σ : MS), Kq (x_operate k b L σ) (kq σ) := by
  intro k
  induction k with
  | zero => intro b L σ; exact Kq_no _
  | succ k ih =>
    intro b L σ
    match b with
    | 0 =>
      refine Kq_eq (by rw [x_operate]) ?_
      exact Kq_ob (Kq_c rfl (kq_kind _ _ _ _)) (fun _ h226 => Kq_ob (Kq_c h226 (kq_kind _ _ _ _)) (fun _ h227 => Kq_ite (Kq_ite (Kq_c h227 (ih _ _ _)) (Kq_c h227 (ih _ _ _))) (Kq_c h227 (ih _ _ _))))
    | 1 =>
      refine Kq_eq (by rw [x_operate]) ?_
      exact Kq_c rfl (ih _ _ _)
    | 2 =>
      refine Kq_eq (by rw [x_operate]) ?_
      exact Kq_ite (Kq_c rfl (ih _ _ _)) (Kq_ite (Kq_c rfl (ih _ _ _)) (Kq_ite (Kq_c rfl (ih _ _ _)) (Kq_ite (Kq_c rfl (ih _ _ _)) (Kq_ite (Kq_c rfl (ih _ _ _)) (Kq_ite (Kq_c rfl (ih _ _ _)) (Kq_ite (Kq_c rfl (ih _ _ _)) (Kq_ite (Kq_c rfl (ih _ _ _)) (Kq_ite (Kq_c rfl (ih _ _ _)) (Kq_ite (Kq_c rfl (ih _ _ _)) (Kq_ite (Kq_c rfl (ih _ _ _)) (Kq_c rfl (ih _ _ _))))))))))))
    | 3 =>
      refine Kq_eq (by rw [x_operate]) ?_
      exact Kq_ob (Kq_c rfl (kq_plus _ _ _ _)) (fun _ h228 => Kq_so h228)
    | 4 =>
      refine Kq_eq (by rw [x_operate]) ?_
      exact Kq_ite (Kq_c rfl (ih _ _ _)) (Kq_ob (Kq_c rfl (kq_add _ _ _ _)) (fun _ h229 => Kq_so h229))
    | 5 =>
      refine Kq_eq (by rw [x_operate]) ?_
      exact Kq_ite (Kq_ite (Kq_ob (Kq_c rfl (kq_sift _ _ _ _)) (fun _ h230 => Kq_c h230 (ih _ _ _))) (Kq_c rfl (ih _ _ _))) (Kq_c rfl (ih _ _ _))
    | 6 =>
      refine Kq_eq (by rw [x_operate]) ?_
      exact Kq_ob (Kq_c rfl (kq_wrongKind _ _ _ _)) (fun _ h231 => Kq_c h231 (ih _ _ _))
    | 7 =>
      refine Kq_eq (by rw [x_operate]) ?_
      exact Kq_so rfl
    | 8 =>
      refine Kq_eq (by rw [x_operate]) ?_
      exact Kq_ite (Kq_c rfl (ih _ _ _)) (Kq_ob (Kq_c rfl (kq_multiply _ _ _ _ _)) (fun _ h232 => Kq_so h232))
    | 9 =>
      refine Kq_eq (by rw [x_operate]) ?_
      exact Kq_ite (Kq_ite (Kq_ob (Kq_c rfl (kq_sift _ _ _ _)) (fun _ h233 => Kq_so h233)) (Kq_c rfl (ih _ _ _))) (Kq_c rfl (ih _ _ _))
    | 10 =>
      refine Kq_eq (by rw [x_operate]) ?_
      exact Kq_ite (Kq_c rfl (ih _ _ _)) (Kq_ite (Kq_c rfl (ih _ _ _)) (Kq_c rfl (ih _ _ _)))
    | 11 =>
      refine Kq_eq (by rw [x_operate]) ?_
      exact Kq_ite (Kq_ob (Kq_c rfl (kq_repeat _ _ _ _)) (fun _ h234 => Kq_c h234 (ih _ _ _))) (Kq_c rfl (ih _ _ _))
    | 12 =>
      refine Kq_eq (by rw [x_operate]) ?_
      exact Kq_ob (Kq_c rfl (kq_wrongKind _ _ _ _)) (fun _ h235 => Kq_c h235 (ih _ _ _))
    | 13 =>
      refine Kq_eq (by rw [x_operate]) ?_
      exact Kq_so rfl
    | 14 =>
      refine Kq_eq (by rw [x_operate]) ?_
      exact Kq_ite (Kq_c rfl (ih _ _ _)) (Kq_ob (Kq_c rfl (kq_raise _ _ _ _)) (fun _ h236 => Kq_c h236 (ih _ _ _)))
    | 15 =>
      refine Kq_eq (by rw [x_operate]) ?_
      exact Kq_ob (Kq_c rfl (kq_wrongKind _ _ _ _)) (fun _ h237 => Kq_c h237 (ih _ _ _))
    | 16 =>
      refine Kq_eq (by rw [x_operate]) ?_
      exact Kq_so rfl
    | 17 =>
      refine Kq_eq (by rw [x_operate]) ?_
      exact Kq_ob (Kq_c rfl (kq_compare _ _ _ _)) (fun _ h238 => Kq_ite (Kq_c h238 (ih _ _ _)) (Kq_c h238 (ih _ _ _)))
    | 18 =>
      refine Kq_eq (by rw [x_operate]) ?_
      exact Kq_c rfl (ih _ _ _)
    | 19 =>
      refine Kq_eq (by rw [x_operate]) ?_
      exact Kq_ob (Kq_c rfl (kq_truth _ _ _ _)) (fun _ h239 => Kq_so h239)
    | 20 =>
      refine Kq_eq (by rw [x_operate]) ?_
      exact Kq_ob (Kq_c rfl (kq_compare _ _ _ _)) (fun _ h240 => Kq_ite (Kq_c h240 (ih _ _ _)) (Kq_c h240 (ih _ _ _)))
    | 21 =>
      refine Kq_eq (by rw [x_operate]) ?_
      exact Kq_c rfl (ih _ _ _)
    | 22 =>
      refine Kq_eq (by rw [x_operate]) ?_
      exact Kq_ob (Kq_c rfl (kq_truth _ _ _ _)) (fun _ h241 => Kq_so h241)
    | 23 =>
      refine Kq_eq (by rw [x_operate]) ?_
      exact Kq_ite (Kq_c rfl (ih _ _ _)) (Kq_ob (Kq_c rfl (kq_divide _ _ _ _)) (fun _ h242 => Kq_c h242 (ih _ _ _)))
    | 24 =>
      refine Kq_eq (by rw [x_operate]) ?_
      exact Kq_ob (Kq_c rfl (kq_wrongKind _ _ _ _)) (fun _ h243 => Kq_c h243 (ih _ _ _))
    | 25 =>
      refine Kq_eq (by rw [x_operate]) ?_
      exact Kq_so rfl
    | 26 =>
      refine Kq_eq (by rw [x_operate]) ?_
      exact Kq_ite (Kq_c rfl (ih _ _ _)) (Kq_ob (Kq_c rfl (kq_divide _ _ _ _)) (fun _ h244 => Kq_c h244 (ih _ _ _)))
    | 27 =>
      refine Kq_eq (by rw [x_operate]) ?_
      exact Kq_ob (Kq_c rfl (kq_wrongKind _ _ _ _)) (fun _ h245 => Kq_c h245 (ih _ _ _))
    | 28 =>
      refine Kq_eq (by rw [x_operate]) ?_
      exact Kq_so rfl
    | 29 =>
      refine Kq_eq (by rw [x_operate]) ?_
      exact Kq_ob (Kq_c rfl (kq_isIn _ _ _ _)) (fun _ h246 => Kq_so h246)
    | 30 =>
      refine Kq_eq (by rw [x_operate]) ?_
      exact Kq_ob (Kq_c rfl (kq_isIn _ _ _ _)) (fun _ h247 => Kq_ite (Kq_c h247 (ih _ _ _)) (Kq_c h247 (ih _ _ _)))
    | 31 =>
      refine Kq_eq (by rw [x_operate]) ?_
      exact Kq_c rfl (ih _ _ _)
    | 32 =>
      refine Kq_eq (by rw [x_operate]) ?_
      exact Kq_ob (Kq_c rfl (kq_truth _ _ _ _)) (fun _ h248 => Kq_so h248)
    | 33 =>
      refine Kq_eq (by rw [x_operate]) ?_
      exact Kq_ite (Kq_ite (Kq_ob (Kq_c rfl (kq_isSubset _ _ _ _)) (fun _ h249 => Kq_ob (Kq_c h249 (kq_truth _ _ _ _)) (fun _ h250 => Kq_c h250 (ih _ _ _)))) (Kq_c rfl (ih _ _ _))) (Kq_c rfl (ih _ _ _))
    | 34 =>
      refine Kq_eq (by rw [x_operate]) ?_
      exact Kq_ob (Kq_c rfl (kq_wrongKind _ _ _ _)) (fun _ h251 => Kq_c h251 (ih _ _ _))
    | 35 =>
      refine Kq_eq (by rw [x_operate]) ?_
      exact Kq_so rfl
    | 36 =>
      refine Kq_eq (by rw [x_operate]) ?_
      exact Kq_ite (Kq_ite (Kq_ite (Kq_c rfl (ih _ _ _)) (Kq_c rfl (ih _ _ _))) (Kq_c rfl (ih _ _ _))) (Kq_c rfl (ih _ _ _))
    | 37 =>
      refine Kq_eq (by rw [x_operate]) ?_
      exact Kq_ob (Kq_c rfl (kq_wrongKind _ _ _ _)) (fun _ h252 => Kq_so h252)
    | 38 =>
      refine Kq_eq (by rw [x_operate]) ?_
      exact Kq_ob (Kq_c rfl (kq_compare _ _ _ _)) (fun _ h253 => Kq_ite (Kq_ite (Kq_c h253 (ih _ _ _)) (Kq_c h253 (ih _ _ _))) (Kq_c h253 (ih _ _ _)))
    | 39 =>
      refine Kq_eq (by rw [x_operate]) ?_
      exact Kq_c rfl (ih _ _ _)
    | 40 =>
      refine Kq_eq (by rw [x_operate]) ?_
      exact Kq_ite (Kq_ite (Kq_c rfl (ih _ _ _)) (Kq_c rfl (ih _ _ _))) (Kq_c rfl (ih _ _ _))
    | 41 =>
      refine Kq_eq (by rw [x_operate]) ?_
      exact Kq_c rfl (ih _ _ _)
    | 42 =>
      refine Kq_eq (by rw [x_operate]) ?_
      exact Kq_ite (Kq_ite (Kq_c rfl (ih _ _ _)) (Kq_c rfl (ih _ _ _))) (Kq_c rfl (ih _ _ _))
    | 43 =>
      refine Kq_eq (by rw [x_operate]) ?_
      exact Kq_c rfl (ih _ _ _)
    | 44 =>
      refine Kq_eq (by rw [x_operate]) ?_
      exact Kq_ite (Kq_c rfl (ih _ _ _)) (Kq_c rfl (ih _ _ _))
    | 45 =>
      refine Kq_eq (by rw [x_operate]) ?_
      exact Kq_c rfl (ih _ _ _)
    | 46 =>
      refine Kq_eq (by rw [x_operate]) ?_
      exact Kq_ob (Kq_c rfl (kq_truth _ _ _ _)) (fun _ h254 => Kq_so h254)
    | b + 47 =>
      refine Kq_eq (by rw [x_operate]) (Kq_no _)
theorem kq_reduce : ∀ (k b : Nat) (L : Nat → Int32) (σ : MS), Kq (x_reduce k b L σ) (kq σ) := by
  intro k
  induction k with
  | zero => intro b L σ; exact Kq_no _
  | succ k ih =>
    intro b L σ
    match b with
    | 0 =>
      refine Kq_eq (by rw [x_reduce]) ?_
      exact Kq_ob (Kq_c rfl (kq_kind _ _ _ _)) (fun _ h255 => Kq_ite (Kq_c h255 (ih _ _ _)) (Kq_ite (Kq_c h255 (ih _ _ _)) (Kq_ob (Kq_c h255 (kq_wrongKind _ _ _ _)) (fun _ h256 => Kq_so h256))))
    | 1 =>
      refine Kq_eq (by rw [x_reduce]) ?_
      exact Kq_ite (Kq_ite (Kq_so rfl) (Kq_c rfl (ih _ _ _))) (Kq_no _)
    | 2 =>
      refine Kq_eq (by rw [x_reduce]) ?_
      exact Kq_ob (Kq_c rfl (kq_push _ _ _ _)) (fun _ h257 => Kq_ite (Kq_ob (Kq_c h257 (kq_push _ _ _ _)) (fun _ h258 => Kq_c h258 (ih _ _ _))) (Kq_no _))
    | 3 =>
      refine Kq_eq (by rw [x_reduce]) ?_
      exact Kq_ite (Kq_c rfl (ih _ _ _)) (Kq_ite (Kq_ob (Kq_c rfl (kq_sweep _ _ _ _)) (fun _ h259 => Kq_ite (Kq_ite (Kq_ite (Kq_ite (Kq_c h259 (ih _ _ _)) (Kq_ite (Kq_c h259 (ih _ _ _)) (Kq_c h259 (ih _ _ _)))) (Kq_no _)) (Kq_no _)) (Kq_no _))) (Kq_c rfl (ih _ _ _)))
    | 4 =>
      refine Kq_eq (by rw [x_reduce]) ?_
      exact Kq_ob (Kq_c rfl (kq_operate _ _ _ _)) (fun _ h260 => Kq_ob (Kq_c h260 (kq_answer _ _ _ _)) (fun _ h261 => Kq_c h261 (ih _ _ _)))
    | 5 =>
      refine Kq_eq (by rw [x_reduce]) ?_
      exact Kq_ob (Kq_c rfl (kq_operate _ _ _ _)) (fun _ h262 => Kq_ite (Kq_c h262 (ih _ _ _)) (Kq_c h262 (ih _ _ _)))
    | 6 =>
      refine Kq_eq (by rw [x_reduce]) ?_
      exact Kq_c rfl (ih _ _ _)
    | 7 =>
      refine Kq_eq (by rw [x_reduce]) ?_
      exact Kq_ite (Kq_ite (Kq_c rfl (ih _ _ _)) (Kq_ite (Kq_c rfl (ih _ _ _)) (Kq_c rfl (ih _ _ _)))) (Kq_c rfl (ih _ _ _))
    | 8 =>
      refine Kq_eq (by rw [x_reduce]) ?_
      exact Kq_ob (Kq_c rfl (kq_operate _ _ _ _)) (fun _ h263 => Kq_ite (Kq_c h263 (ih _ _ _)) (Kq_c h263 (ih _ _ _)))
    | 9 =>
      refine Kq_eq (by rw [x_reduce]) ?_
      exact Kq_c rfl (ih _ _ _)
    | 10 =>
      refine Kq_eq (by rw [x_reduce]) ?_
      exact Kq_c rfl (ih _ _ _)
    | 11 =>
      refine Kq_eq (by rw [x_reduce]) ?_
      exact Kq_c rfl (ih _ _ _)
    | 12 =>
      refine Kq_eq (by rw [x_reduce]) ?_
      exact Kq_ite (Kq_c rfl (ih _ _ _)) (Kq_no _)
    | 13 =>
      refine Kq_eq (by rw [x_reduce]) ?_
      exact Kq_c rfl (ih _ _ _)
    | 14 =>
      refine Kq_eq (by rw [x_reduce]) ?_
      exact Kq_c rfl (ih _ _ _)
    | 15 =>
      refine Kq_eq (by rw [x_reduce]) ?_
      exact Kq_ite (Kq_ite (Kq_c rfl (ih _ _ _)) (Kq_no _)) (Kq_c rfl (ih _ _ _))
    | 16 =>
      refine Kq_eq (by rw [x_reduce]) ?_
      exact Kq_c rfl (ih _ _ _)
    | 17 =>
      refine Kq_eq (by rw [x_reduce]) ?_
      exact Kq_so rfl
    | b + 18 =>
      refine Kq_eq (by rw [x_reduce]) (Kq_no _)
theorem kq_single : ∀ (k b : Nat) (L : Nat → Int32) (σ : MS), Kq (x_single k b L σ) (kq σ) := by
  intro k
  induction k with
  | zero => intro b L σ; exact Kq_no _
  | succ k ih =>
    intro b L σ
    match b with
    | 0 =>
      refine Kq_eq (by rw [x_single]) ?_
      exact Kq_ite (Kq_ite (Kq_c rfl (ih _ _ _)) (Kq_ite (Kq_c rfl (ih _ _ _)) (Kq_ite (Kq_c rfl (ih _ _ _)) (Kq_ite (Kq_c rfl (ih _ _ _)) (Kq_c rfl (ih _ _ _)))))) (Kq_no _)
    | 1 =>
      refine Kq_eq (by rw [x_single]) ?_
      exact Kq_ite (Kq_ob (Kq_c rfl (kq_function _ _ _ _)) (fun _ h264 => Kq_so h264)) (Kq_no _)
    | 2 =>
      refine Kq_eq (by rw [x_single]) ?_
      exact Kq_ob (Kq_c rfl (kq_negative _ _ _ _)) (fun _ h265 => Kq_so h265)
    | 3 =>
      refine Kq_eq (by rw [x_single]) ?_
      exact Kq_ob (Kq_c rfl (kq_many _ _ _ _)) (fun _ h266 => Kq_so h266)
    | 4 =>
      refine Kq_eq (by rw [x_single]) ?_
      exact Kq_ob (Kq_c rfl (kq_turned _ _ _ _)) (fun _ h267 => Kq_so h267)
    | 5 =>
      refine Kq_eq (by rw [x_single]) ?_
      exact Kq_ite (Kq_ob (Kq_c rfl (kq_reduce _ _ _ _)) (fun _ h268 => Kq_so h268)) (Kq_no _)
    | b + 6 =>
      refine Kq_eq (by rw [x_single]) (Kq_no _)
theorem kq_range : ∀ (k b : Nat) (L : Nat → Int32) (σ : MS), Kq (x_range k b L σ) (kq σ) := by
  intro k
  induction k with
  | zero => intro b L σ; exact Kq_no _
  | succ k ih =>
    intro b L σ
    match b with
    | 0 =>
      refine Kq_eq (by rw [x_range]) ?_
      exact Kq_ob (Kq_c rfl (kq_pop _ _ _ _)) (fun _ h269 => Kq_ite (Kq_c h269 (ih _ _ _)) (Kq_ob (Kq_c h269 (kq_pop _ _ _ _)) (fun _ h270 => Kq_c h270 (ih _ _ _))))
    | 1 =>
      refine Kq_eq (by rw [x_range]) ?_
      exact Kq_c rfl (ih _ _ _)
    | 2 =>
      refine Kq_eq (by rw [x_range]) ?_
      exact Kq_ob (Kq_c rfl (kq_pop _ _ _ _)) (fun _ h271 => Kq_ob (Kq_c h271 (kq_kind _ _ _ _)) (fun _ h272 => Kq_ite (Kq_ob (Kq_c h272 (kq_kind _ _ _ _)) (fun _ h273 => Kq_ite (Kq_ite (Kq_c h273 (ih _ _ _)) (Kq_ob (Kq_c h273 (kq_kind _ _ _ _)) (fun _ h274 => Kq_ite (Kq_c h274 (ih _ _ _)) (Kq_c h274 (ih _ _ _))))) (Kq_c h273 (ih _ _ _)))) (Kq_c h272 (ih _ _ _))))
    | 3 =>
      refine Kq_eq (by rw [x_range]) ?_
      exact Kq_ob (Kq_c rfl (kq_wrongKind _ _ _ _)) (fun _ h275 => Kq_so h275)
    | 4 =>
      refine Kq_eq (by rw [x_range]) ?_
      exact Kq_ite (Kq_c rfl (ih _ _ _)) (Kq_ob (Kq_c rfl (kq_add _ _ _ _)) (fun _ h276 => Kq_c h276 (ih _ _ _)))
    | 5 =>
      refine Kq_eq (by rw [x_range]) ?_
      exact Kq_ob (Kq_c rfl (kq_small _ _ _ _)) (fun _ h277 => Kq_c h277 (ih _ _ _))
    | 6 =>
      refine Kq_eq (by rw [x_range]) ?_
      exact Kq_ite (Kq_c rfl (ih _ _ _)) (Kq_c rfl (ih _ _ _))
    | 7 =>
      refine Kq_eq (by rw [x_range]) ?_
      exact Kq_c rfl (ih _ _ _)
    | 8 =>
      refine Kq_eq (by rw [x_range]) ?_
      exact Kq_c rfl (ih _ _ _)
    | 9 =>
      refine Kq_eq (by rw [x_range]) ?_
      exact Kq_ite (Kq_c rfl (ih _ _ _)) (Kq_ob (Kq_c rfl (kq_compareWholes _ _ _ _)) (fun _ h278 => Kq_ite (Kq_c h278 (ih _ _ _)) (Kq_c h278 (ih _ _ _))))
    | 10 =>
      refine Kq_eq (by rw [x_range]) ?_
      exact Kq_c rfl (ih _ _ _)
    | 11 =>
      refine Kq_eq (by rw [x_range]) ?_
      exact Kq_ob (Kq_c rfl (kq_signOf _ _ _ _)) (fun _ h279 => Kq_c h279 (ih _ _ _))
    | 12 =>
      refine Kq_eq (by rw [x_range]) ?_
      exact Kq_ite (Kq_c rfl (ih _ _ _)) (Kq_c rfl (ih _ _ _))
    | 13 =>
      refine Kq_eq (by rw [x_range]) ?_
      exact Kq_c rfl (ih _ _ _)
    | 14 =>
      refine Kq_eq (by rw [x_range]) ?_
      exact Kq_c rfl (ih _ _ _)
    | 15 =>
      refine Kq_eq (by rw [x_range]) ?_
      exact Kq_ite (Kq_ite (Kq_c rfl (ih _ _ _)) (Kq_ite (Kq_c rfl (ih _ _ _)) (Kq_ob (Kq_c rfl (kq_compareWholes _ _ _ _)) (fun _ h280 => Kq_ite (Kq_c h280 (ih _ _ _)) (Kq_c h280 (ih _ _ _)))))) (Kq_c rfl (ih _ _ _))
    | 16 =>
      refine Kq_eq (by rw [x_range]) ?_
      exact Kq_ob (Kq_c rfl (kq_compareWholes _ _ _ _)) (fun _ h281 => Kq_ite (Kq_c h281 (ih _ _ _)) (Kq_c h281 (ih _ _ _)))
    | 17 =>
      refine Kq_eq (by rw [x_range]) ?_
      exact Kq_ob (Kq_c rfl (kq_push _ _ _ _)) (fun _ h282 => Kq_ite (Kq_c h282 (ih _ _ _)) (Kq_ob (Kq_c h282 (kq_fail _ _ _ _)) (fun _ h283 => Kq_c h283 (ih _ _ _))))
    | 18 =>
      refine Kq_eq (by rw [x_range]) ?_
      exact Kq_ite (Kq_c rfl (ih _ _ _)) (Kq_ite (Kq_c rfl (ih _ _ _)) (Kq_c rfl (ih _ _ _)))
    | 19 =>
      refine Kq_eq (by rw [x_range]) ?_
      exact Kq_c rfl (ih _ _ _)
    | 20 =>
      refine Kq_eq (by rw [x_range]) ?_
      exact Kq_c rfl (ih _ _ _)
    | 21 =>
      refine Kq_eq (by rw [x_range]) ?_
      exact Kq_ob (Kq_c rfl (kq_add _ _ _ _)) (fun _ h284 => Kq_ite (Kq_c h284 (ih _ _ _)) (Kq_c h284 (ih _ _ _)))
    | 22 =>
      refine Kq_eq (by rw [x_range]) ?_
      exact Kq_c rfl (ih _ _ _)
    | 23 =>
      refine Kq_eq (by rw [x_range]) ?_
      exact Kq_c rfl (ih _ _ _)
    | 24 =>
      refine Kq_eq (by rw [x_range]) ?_
      exact Kq_ite (Kq_c rfl (ih _ _ _)) (Kq_so rfl)
    | 25 =>
      refine Kq_eq (by rw [x_range]) ?_
      exact Kq_ite (Kq_c rfl (ih _ _ _)) (Kq_ob (Kq_c rfl (kq_setOf _ _ _ _)) (fun _ h285 => Kq_c h285 (ih _ _ _)))
    | 26 =>
      refine Kq_eq (by rw [x_range]) ?_
      exact Kq_ob (Kq_c rfl (kq_tupleOf _ _ _ _)) (fun _ h286 => Kq_c h286 (ih _ _ _))
    | 27 =>
      refine Kq_eq (by rw [x_range]) ?_
      exact Kq_so rfl
    | b + 28 =>
      refine Kq_eq (by rw [x_range]) (Kq_no _)
theorem kq_isOver : ∀ (k b : Nat) (L : Nat → Int32) (σ : MS), Kq (x_isOver k b L σ) (kq σ) := by
  intro k
  induction k with
  | zero => intro b L σ; exact Kq_no _
  | succ k ih =>
    intro b L σ
    match b with
    | 0 =>
      refine Kq_eq (by rw [x_isOver]) ?_
      exact Kq_ite (Kq_c rfl (ih _ _ _)) (Kq_ite (Kq_c rfl (ih _ _ _)) (Kq_ite (Kq_c rfl (ih _ _ _)) (Kq_ite (Kq_c rfl (ih _ _ _)) (Kq_ite (Kq_c rfl (ih _ _ _)) (Kq_ite (Kq_c rfl (ih _ _ _)) (Kq_ite (Kq_c rfl (ih _ _ _)) (Kq_c rfl (ih _ _ _))))))))
    | 1 =>
      refine Kq_eq (by rw [x_isOver]) ?_
      exact Kq_c rfl (ih _ _ _)
    | 2 =>
      refine Kq_eq (by rw [x_isOver]) ?_
      exact Kq_c rfl (ih _ _ _)
    | 3 =>
      refine Kq_eq (by rw [x_isOver]) ?_
      exact Kq_ite (Kq_so rfl) (Kq_no _)
    | b + 4 =>
      refine Kq_eq (by rw [x_isOver]) (Kq_no _)
theorem kq_bindOne : ∀ (k b : Nat) (L : Nat → Int32) (σ : MS), Kq (x_bindOne k b L σ) (kq σ) := by
  intro k
  induction k with
  | zero => intro b L σ; exact Kq_no _
  | succ k ih =>
    intro b L σ
    match b with
    | 0 =>
      refine Kq_eq (by rw [x_bindOne]) ?_
      exact Kq_ite (Kq_ite (Kq_ite (Kq_ite (Kq_c rfl (ih _ _ _)) (Kq_no _)) (Kq_no _)) (Kq_c rfl (ih _ _ _))) (Kq_no _)
    | 1 =>
      refine Kq_eq (by rw [x_bindOne]) ?_
      exact Kq_ite (Kq_c rfl (ih _ _ _)) (Kq_ite (Kq_ite (Kq_c rfl (ih _ _ _)) (Kq_no _)) (Kq_no _))
    | 2 =>
      refine Kq_eq (by rw [x_bindOne]) ?_
      exact Kq_ite (Kq_ite (Kq_ite (Kq_c rfl (ih _ _ _)) (Kq_no _)) (Kq_no _)) (Kq_no _)
    | 3 =>
      refine Kq_eq (by rw [x_bindOne]) ?_
      exact Kq_so rfl
    | b + 4 =>
      refine Kq_eq (by rw [x_bindOne]) (Kq_no _)
theorem kq_clear : ∀ (k b : Nat) (L : Nat → Int32) (σ : MS), Kq (x_clear k b L σ) (kq σ) := by
  intro k
  induction k with
  | zero => intro b L σ; exact Kq_no _
  | succ k ih =>
    intro b L σ
    match b with
    | 0 =>
      refine Kq_eq (by rw [x_clear]) ?_
      exact Kq_c rfl (ih _ _ _)
    | 1 =>
      refine Kq_eq (by rw [x_clear]) ?_
      exact Kq_ite (Kq_c rfl (ih _ _ _)) (Kq_ite (Kq_c rfl (ih _ _ _)) (Kq_no _))
    | 2 =>
      refine Kq_eq (by rw [x_clear]) ?_
      exact Kq_ite (Kq_c rfl (ih _ _ _)) (Kq_ob (Kq_c rfl (kq_bindOne _ _ _ _)) (fun _ h287 => Kq_ite (Kq_c h287 (ih _ _ _)) (Kq_no _)))
    | 3 =>
      refine Kq_eq (by rw [x_clear]) ?_
      exact Kq_ite (Kq_c rfl (ih _ _ _)) (Kq_no _)
    | 4 =>
      refine Kq_eq (by rw [x_clear]) ?_
      exact Kq_so rfl
    | b + 5 =>
      refine Kq_eq (by rw [x_clear]) (Kq_no _)
theorem kq_bind : ∀ (k b : Nat) (L : Nat → Int32) (σ : MS), Kq (x_bind k b L σ) (kq σ) := by
  intro k
  induction k with
  | zero => intro b L σ; exact Kq_no _
  | succ k ih =>
    intro b L σ
    match b with
    | 0 =>
      refine Kq_eq (by rw [x_bind]) ?_
      exact Kq_ite (Kq_ite (Kq_ite (Kq_ob (Kq_c rfl (kq_bindOne _ _ _ _)) (fun _ h288 => Kq_so h288)) (Kq_no _)) (Kq_c rfl (ih _ _ _))) (Kq_no _)
    | 1 =>
      refine Kq_eq (by rw [x_bind]) ?_
      exact Kq_ite (Kq_c rfl (ih _ _ _)) (Kq_no _)
    | 2 =>
      refine Kq_eq (by rw [x_bind]) ?_
      exact Kq_ite (Kq_c rfl (ih _ _ _)) (Kq_ite (Kq_c rfl (ih _ _ _)) (Kq_no _))
    | 3 =>
      refine Kq_eq (by rw [x_bind]) ?_
      exact Kq_ob (Kq_c rfl (kq_kind _ _ _ _)) (fun _ h289 => Kq_ite (Kq_ite (Kq_ite (Kq_c h289 (ih _ _ _)) (Kq_c h289 (ih _ _ _))) (Kq_no _)) (Kq_c h289 (ih _ _ _)))
    | 4 =>
      refine Kq_eq (by rw [x_bind]) ?_
      exact Kq_ob (Kq_c rfl (kq_fail _ _ _ _)) (fun _ h290 => Kq_so h290)
    | 5 =>
      refine Kq_eq (by rw [x_bind]) ?_
      exact Kq_ite (Kq_c rfl (ih _ _ _)) (Kq_no _)
    | 6 =>
      refine Kq_eq (by rw [x_bind]) ?_
      exact Kq_ite (Kq_c rfl (ih _ _ _)) (Kq_ite (Kq_ite (Kq_c rfl (ih _ _ _)) (Kq_ite (Kq_c rfl (ih _ _ _)) (Kq_no _))) (Kq_no _))
    | 7 =>
      refine Kq_eq (by rw [x_bind]) ?_
      exact Kq_c rfl (ih _ _ _)
    | 8 =>
      refine Kq_eq (by rw [x_bind]) ?_
      exact Kq_ob (Kq_c rfl (kq_bindOne _ _ _ _)) (fun _ h291 => Kq_ite (Kq_c h291 (ih _ _ _)) (Kq_no _))
    | 9 =>
      refine Kq_eq (by rw [x_bind]) ?_
      exact Kq_so rfl
    | b + 10 =>
      refine Kq_eq (by rw [x_bind]) (Kq_no _)
theorem kq_stepIter : ∀ (k b : Nat) (L : Nat → Int32) (σ : MS), Kq (x_stepIter k b L σ) (kq σ) := by
  intro k
  induction k with
  | zero => intro b L σ; exact Kq_no _
  | succ k ih =>
    intro b L σ
    match b with
    | 0 =>
      refine Kq_eq (by rw [x_stepIter]) ?_
      exact Kq_ite (Kq_ite (Kq_ite (Kq_ite (Kq_so rfl) (Kq_c rfl (ih _ _ _))) (Kq_no _)) (Kq_no _)) (Kq_no _)
    | 1 =>
      refine Kq_eq (by rw [x_stepIter]) ?_
      exact Kq_ite (Kq_c rfl (ih _ _ _)) (Kq_no _)
    | 2 =>
      refine Kq_eq (by rw [x_stepIter]) ?_
      exact Kq_ob (Kq_c rfl (kq_worked _ _ _ _)) (fun _ h292 => Kq_ite (Kq_ob (Kq_c h292 (kq_memberAt _ _ _ _)) (fun _ h293 => Kq_ob (Kq_c h293 (kq_bind _ _ _ _)) (fun _ h294 => Kq_c h294 (ih _ _ _)))) (Kq_c h292 (ih _ _ _)))
    | 3 =>
      refine Kq_eq (by rw [x_stepIter]) ?_
      exact Kq_ite (Kq_c rfl (ih _ _ _)) (Kq_c rfl (ih _ _ _))
    | 4 =>
      refine Kq_eq (by rw [x_stepIter]) ?_
      exact Kq_c rfl (ih _ _ _)
    | 5 =>
      refine Kq_eq (by rw [x_stepIter]) ?_
      exact Kq_ite (Kq_so rfl) (Kq_no _)
    | b + 6 =>
      refine Kq_eq (by rw [x_stepIter]) (Kq_no _)
theorem kq_isTrue : ∀ (k b : Nat) (L : Nat → Int32) (σ : MS), Kq (x_isTrue k b L σ) (kq σ) := by
  intro k
  induction k with
  | zero => intro b L σ; exact Kq_no _
  | succ k ih =>
    intro b L σ
    match b with
    | 0 =>
      refine Kq_eq (by rw [x_isTrue]) ?_
      exact Kq_ob (Kq_c rfl (kq_pop _ _ _ _)) (fun _ h295 => Kq_ite (Kq_c h295 (ih _ _ _)) (Kq_ite (Kq_c h295 (ih _ _ _)) (Kq_ob (Kq_c h295 (kq_fail _ _ _ _)) (fun _ h296 => Kq_c h296 (ih _ _ _)))))
    | 1 =>
      refine Kq_eq (by rw [x_isTrue]) ?_
      exact Kq_ite (Kq_c rfl (ih _ _ _)) (Kq_c rfl (ih _ _ _))
    | 2 =>
      refine Kq_eq (by rw [x_isTrue]) ?_
      exact Kq_c rfl (ih _ _ _)
    | 3 =>
      refine Kq_eq (by rw [x_isTrue]) ?_
      exact Kq_ite (Kq_so rfl) (Kq_no _)
    | b + 4 =>
      refine Kq_eq (by rw [x_isTrue]) (Kq_no _)
theorem kq_isSlice : ∀ (k b : Nat) (L : Nat → Int32) (σ : MS), Kq (x_isSlice k b L σ) (kq σ) := by
  intro k
  induction k with
  | zero => intro b L σ; exact Kq_no _
  | succ k ih =>
    intro b L σ
    match b with
    | 0 =>
      refine Kq_eq (by rw [x_isSlice]) ?_
      exact Kq_ob (Kq_c rfl (kq_kind _ _ _ _)) (fun _ h297 => Kq_ite (Kq_c h297 (ih _ _ _)) (Kq_ite (Kq_c h297 (ih _ _ _)) (Kq_c h297 (ih _ _ _))))
    | 1 =>
      refine Kq_eq (by rw [x_isSlice]) ?_
      exact Kq_ob (Kq_c rfl (kq_kind _ _ _ _)) (fun _ h298 => Kq_ite (Kq_ob (Kq_c h298 (kq_kind _ _ _ _)) (fun _ h299 => Kq_ite (Kq_c h299 (ih _ _ _)) (Kq_c h299 (ih _ _ _)))) (Kq_c h298 (ih _ _ _)))
    | 2 =>
      refine Kq_eq (by rw [x_isSlice]) ?_
      exact Kq_ob (Kq_c rfl (kq_fail _ _ _ _)) (fun _ h300 => Kq_so h300)
    | 3 =>
      refine Kq_eq (by rw [x_isSlice]) ?_
      exact Kq_ob (Kq_c rfl (kq_intOf _ _ _ _ _)) (fun _ h301 => Kq_c h301 (ih _ _ _))
    | 4 =>
      refine Kq_eq (by rw [x_isSlice]) ?_
      exact Kq_ob (Kq_c rfl (kq_intOf _ _ _ _ _)) (fun _ h302 => Kq_c h302 (ih _ _ _))
    | 5 =>
      refine Kq_eq (by rw [x_isSlice]) ?_
      exact Kq_so rfl
    | b + 6 =>
      refine Kq_eq (by rw [x_isSlice]) (Kq_no _)
theorem kq_isSliceIn : ∀ (k b : Nat) (L : Nat → Int32) (σ : MS), Kq (x_isSliceIn k b L σ) (kq σ) := by
  intro k
  induction k with
  | zero => intro b L σ; exact Kq_no _
  | succ k ih =>
    intro b L σ
    match b with
    | 0 =>
      refine Kq_eq (by rw [x_isSliceIn]) ?_
      exact Kq_ite (Kq_c rfl (ih _ _ _)) (Kq_ite (Kq_c rfl (ih _ _ _)) (Kq_ite (Kq_ite (Kq_c rfl (ih _ _ _)) (Kq_c rfl (ih _ _ _))) (Kq_no _)))
    | 1 =>
      refine Kq_eq (by rw [x_isSliceIn]) ?_
      exact Kq_ob (Kq_c rfl (kq_fail _ _ _ _)) (fun _ h303 => Kq_so h303)
    | 2 =>
      refine Kq_eq (by rw [x_isSliceIn]) ?_
      exact Kq_so rfl
    | b + 3 =>
      refine Kq_eq (by rw [x_isSliceIn]) (Kq_no _)
theorem kq_stringOf__28 : ∀ (k b : Nat) (L : Nat → Int32) (σ : MS), Kq (x_stringOf__28 k b L σ) (kq σ) := by
  intro k
  induction k with
  | zero => intro b L σ; exact Kq_no _
  | succ k ih =>
    intro b L σ
    match b with
    | 0 =>
      refine Kq_eq (by rw [x_stringOf__28]) ?_
      exact Kq_ite (Kq_no _) (Kq_ite (Kq_c rfl (ih _ _ _)) (Kq_ob (Kq_c rfl (kq_fail _ _ _ _)) (fun _ h304 => Kq_so h304)))
    | 1 =>
      refine Kq_eq (by rw [x_stringOf__28]) ?_
      exact Kq_ob (Kq_c rfl (kq_make _ _ _ _)) (fun _ h305 => Kq_c h305 (ih _ _ _))
    | 2 =>
      refine Kq_eq (by rw [x_stringOf__28]) ?_
      exact Kq_ite (Kq_c rfl (ih _ _ _)) (Kq_ite (Kq_ite (Kq_ite (Kq_c rfl (ih _ _ _)) (Kq_no _)) (Kq_no _)) (Kq_c rfl (ih _ _ _)))
    | 3 =>
      refine Kq_eq (by rw [x_stringOf__28]) ?_
      exact Kq_c rfl (ih _ _ _)
    | 4 =>
      refine Kq_eq (by rw [x_stringOf__28]) ?_
      exact Kq_ite (Kq_no _) (Kq_ite (Kq_c rfl (ih _ _ _)) (Kq_no _))
    | 5 =>
      refine Kq_eq (by rw [x_stringOf__28]) ?_
      exact Kq_so rfl
    | b + 6 =>
      refine Kq_eq (by rw [x_stringOf__28]) (Kq_no _)
theorem kq_slice : ∀ (k b : Nat) (L : Nat → Int32) (σ : MS), Kq (x_slice k b L σ) (kq σ) := by
  intro k
  induction k with
  | zero => intro b L σ; exact Kq_no _
  | succ k ih =>
    intro b L σ
    match b with
    | 0 =>
      refine Kq_eq (by rw [x_slice]) ?_
      exact Kq_ob (Kq_c rfl (kq_isSlice _ _ _ _)) (fun _ h306 => Kq_ite (Kq_c h306 (ih _ _ _)) (Kq_ob (Kq_c h306 (kq_isSliceIn _ _ _ _)) (fun _ h307 => Kq_ite (Kq_c h307 (ih _ _ _)) (Kq_c h307 (ih _ _ _)))))
    | 1 =>
      refine Kq_eq (by rw [x_slice]) ?_
      exact Kq_so rfl
    | 2 =>
      refine Kq_eq (by rw [x_slice]) ?_
      exact Kq_ite (Kq_ite (Kq_ob (Kq_c rfl (kq_stringOf__28 _ _ _ _)) (fun _ h308 => Kq_so h308)) (Kq_c rfl (ih _ _ _))) (Kq_no _)
    | 3 =>
      refine Kq_eq (by rw [x_slice]) ?_
      exact Kq_c rfl (ih _ _ _)
    | 4 =>
      refine Kq_eq (by rw [x_slice]) ?_
      exact Kq_ite (Kq_c rfl (ih _ _ _)) (Kq_ite (Kq_ob (Kq_c rfl (kq_push _ _ _ _)) (fun _ h309 => Kq_c h309 (ih _ _ _))) (Kq_no _))
    | 5 =>
      refine Kq_eq (by rw [x_slice]) ?_
      exact Kq_ob (Kq_c rfl (kq_tupleOf _ _ _ _)) (fun _ h310 => Kq_so h310)
    | b + 6 =>
      refine Kq_eq (by rw [x_slice]) (Kq_no _)
theorem kq_partAt : ∀ (k b : Nat) (L : Nat → Int32) (σ : MS), Kq (x_partAt k b L σ) (kq σ) := by
  intro k
  induction k with
  | zero => intro b L σ; exact Kq_no _
  | succ k ih =>
    intro b L σ
    match b with
    | 0 =>
      refine Kq_eq (by rw [x_partAt]) ?_
      exact Kq_ob (Kq_c rfl (kq_kind _ _ _ _)) (fun _ h311 => Kq_ite (Kq_c h311 (ih _ _ _)) (Kq_ite (Kq_c h311 (ih _ _ _)) (Kq_c h311 (ih _ _ _))))
    | 1 =>
      refine Kq_eq (by rw [x_partAt]) ?_
      exact Kq_ob (Kq_c rfl (kq_kind _ _ _ _)) (fun _ h312 => Kq_ite (Kq_c h312 (ih _ _ _)) (Kq_ob (Kq_c h312 (kq_wrongKind _ _ _ _)) (fun _ h313 => Kq_so h313)))
    | 2 =>
      refine Kq_eq (by rw [x_partAt]) ?_
      exact Kq_ob (Kq_c rfl (kq_intOf _ _ _ _ _)) (fun _ h314 => Kq_ite (Kq_c h314 (ih _ _ _)) (Kq_ob (Kq_c h314 (kq_fail _ _ _ _)) (fun _ h315 => Kq_so h315)))
    | 3 =>
      refine Kq_eq (by rw [x_partAt]) ?_
      exact Kq_ite (Kq_ite (Kq_c rfl (ih _ _ _)) (Kq_c rfl (ih _ _ _))) (Kq_no _)
    | 4 =>
      refine Kq_eq (by rw [x_partAt]) ?_
      exact Kq_ob (Kq_c rfl (kq_memberAt _ _ _ _)) (fun _ h316 => Kq_c h316 (ih _ _ _))
    | 5 =>
      refine Kq_eq (by rw [x_partAt]) ?_
      exact Kq_so rfl
    | 6 =>
      refine Kq_eq (by rw [x_partAt]) ?_
      exact Kq_ob (Kq_c rfl (kq_isMap _ _ _ _)) (fun _ h317 => Kq_ite (Kq_ob (Kq_c h317 (kq_wrongKind _ _ _ _)) (fun _ h318 => Kq_so h318)) (Kq_c h317 (ih _ _ _)))
    | 7 =>
      refine Kq_eq (by rw [x_partAt]) ?_
      exact Kq_c rfl (ih _ _ _)
    | 8 =>
      refine Kq_eq (by rw [x_partAt]) ?_
      exact Kq_ite (Kq_ite (Kq_c rfl (ih _ _ _)) (Kq_ite (Kq_ite (Kq_ob (Kq_c rfl (kq_compare _ _ _ _)) (fun _ h319 => Kq_ite (Kq_ite (Kq_c h319 (ih _ _ _)) (Kq_no _)) (Kq_c h319 (ih _ _ _)))) (Kq_no _)) (Kq_no _))) (Kq_no _)
    | 9 =>
      refine Kq_eq (by rw [x_partAt]) ?_
      exact Kq_c rfl (ih _ _ _)
    | 10 =>
      refine Kq_eq (by rw [x_partAt]) ?_
      exact Kq_ite (Kq_c rfl (ih _ _ _)) (Kq_c rfl (ih _ _ _))
    | 11 =>
      refine Kq_eq (by rw [x_partAt]) ?_
      exact Kq_c rfl (ih _ _ _)
    | 12 =>
      refine Kq_eq (by rw [x_partAt]) ?_
      exact Kq_so rfl
    | b + 13 =>
      refine Kq_eq (by rw [x_partAt]) (Kq_no _)
theorem kq_image : ∀ (k b : Nat) (L : Nat → Int32) (σ : MS), Kq (x_image k b L σ) (kq σ) := by
  intro k
  induction k with
  | zero => intro b L σ; exact Kq_no _
  | succ k ih =>
    intro b L σ
    match b with
    | 0 =>
      refine Kq_eq (by rw [x_image]) ?_
      exact Kq_ob (Kq_c rfl (kq_isMap _ _ _ _)) (fun _ h320 => Kq_ite (Kq_ob (Kq_c h320 (kq_wrongKind _ _ _ _)) (fun _ h321 => Kq_so h321)) (Kq_c h320 (ih _ _ _)))
    | 1 =>
      refine Kq_eq (by rw [x_image]) ?_
      exact Kq_c rfl (ih _ _ _)
    | 2 =>
      refine Kq_eq (by rw [x_image]) ?_
      exact Kq_ite (Kq_ite (Kq_c rfl (ih _ _ _)) (Kq_ite (Kq_ite (Kq_ob (Kq_c rfl (kq_compare _ _ _ _)) (fun _ h322 => Kq_ite (Kq_ite (Kq_ob (Kq_c h322 (kq_push _ _ _ _)) (fun _ h323 => Kq_c h323 (ih _ _ _))) (Kq_no _)) (Kq_c h322 (ih _ _ _)))) (Kq_no _)) (Kq_no _))) (Kq_no _)
    | 3 =>
      refine Kq_eq (by rw [x_image]) ?_
      exact Kq_c rfl (ih _ _ _)
    | 4 =>
      refine Kq_eq (by rw [x_image]) ?_
      exact Kq_ob (Kq_c rfl (kq_setOf _ _ _ _)) (fun _ h324 => Kq_so h324)
    | b + 5 =>
      refine Kq_eq (by rw [x_image]) (Kq_no _)
theorem kq_isRow : ∀ (k b : Nat) (L : Nat → Int32) (σ : MS), Kq (x_isRow k b L σ) (kq σ) := by
  intro k
  induction k with
  | zero => intro b L σ; exact Kq_no _
  | succ k ih =>
    intro b L σ
    match b with
    | 0 =>
      refine Kq_eq (by rw [x_isRow]) ?_
      exact Kq_ob (Kq_c rfl (kq_kind _ _ _ _)) (fun _ h325 => Kq_ite (Kq_c h325 (ih _ _ _)) (Kq_c h325 (ih _ _ _)))
    | 1 =>
      refine Kq_eq (by rw [x_isRow]) ?_
      exact Kq_c rfl (ih _ _ _)
    | 2 =>
      refine Kq_eq (by rw [x_isRow]) ?_
      exact Kq_ite (Kq_so rfl) (Kq_no _)
    | b + 3 =>
      refine Kq_eq (by rw [x_isRow]) (Kq_no _)
theorem kq_s_begins {X : Nat → Nat → Nat → (Nat → Int32) → MS → Option (Int32 × MS)} (hX : ∀ e m b L (σ : MS), Kq (X e m b L σ) (kq σ)) (k d b : Nat) (L : Nat → Int32) (σ : MS) : Kq (s_begins X k d b L σ) (kq σ) := by
  match b with
  | 0 => exact Kq_ite (Kq_c rfl (hX _ _ _ _ _)) (Kq_so rfl)
  | 1 => exact Kq_ite (Kq_ite (Kq_c rfl (hX _ _ _ _ _)) (Kq_ite (Kq_c rfl (hX _ _ _ _ _)) (Kq_ite (Kq_c rfl (hX _ _ _ _ _)) (Kq_ite (Kq_c rfl (hX _ _ _ _ _)) (Kq_ite (Kq_c rfl (hX _ _ _ _ _)) (Kq_ite (Kq_c rfl (hX _ _ _ _ _)) (Kq_ite (Kq_c rfl (hX _ _ _ _ _)) (Kq_ite (Kq_c rfl (hX _ _ _ _ _)) (Kq_ite (Kq_c rfl (hX _ _ _ _ _)) (Kq_ite (Kq_c rfl (hX _ _ _ _ _)) (Kq_ite (Kq_c rfl (hX _ _ _ _ _)) (Kq_ite (Kq_c rfl (hX _ _ _ _ _)) (Kq_ite (Kq_c rfl (hX _ _ _ _ _)) (Kq_ite (Kq_c rfl (hX _ _ _ _ _)) (Kq_ite (Kq_c rfl (hX _ _ _ _ _)) (Kq_c rfl (hX _ _ _ _ _))))))))))))))))) (Kq_no _)
  | 2 => exact Kq_ob (Kq_c rfl (kq_sweep _ _ _ _)) (fun _ h326 => Kq_ite (Kq_ite (Kq_ob (Kq_c h326 (kq_literal _ _ _ _)) (fun _ h327 => Kq_ob (Kq_c h327 (kq_answer _ _ _ _)) (fun _ h328 => Kq_ob (Kq_c h328 (kq_push _ _ _ _)) (fun _ h329 => Kq_so h329)))) (Kq_no _)) (Kq_no _))
  | 3 => exact Kq_ob (Kq_c rfl (kq_sweep _ _ _ _)) (fun _ h330 => Kq_ite (Kq_ite (Kq_ob (Kq_c h330 (kq_stringOf__12 _ _ _ _)) (fun _ h331 => Kq_ob (Kq_c h331 (kq_answer _ _ _ _)) (fun _ h332 => Kq_ob (Kq_c h332 (kq_push _ _ _ _)) (fun _ h333 => Kq_so h333)))) (Kq_no _)) (Kq_no _))
  | 4 => exact Kq_ob (Kq_c rfl (kq_push _ _ _ _)) (fun _ h334 => Kq_so h334)
  | 5 => exact Kq_ob (Kq_c rfl (kq_push _ _ _ _)) (fun _ h335 => Kq_so h335)
  | 6 => exact Kq_ob (Kq_c rfl (kq_push _ _ _ _)) (fun _ h336 => Kq_so h336)
  | 7 => exact Kq_ob (Kq_c rfl (kq_sweep _ _ _ _)) (fun _ h337 => Kq_ob (Kq_c h337 (kq_newAtom _ _ _ _)) (fun _ h338 => Kq_ob (Kq_c h338 (kq_answer _ _ _ _)) (fun _ h339 => Kq_ob (Kq_c h339 (kq_push _ _ _ _)) (fun _ h340 => Kq_so h340))))
  | 8 => exact Kq_ob (Kq_c rfl (kq_valueOf _ _ _ _)) (fun _ h341 => Kq_ob (Kq_c h341 (kq_push _ _ _ _)) (fun _ h342 => Kq_so h342))
  | 9 => exact Kq_od (fun _ => Kq_ob (Kq_c rfl (hX _ _ _ _ _)) (fun _ h343 => Kq_so h343))
  | 10 => exact Kq_od (fun _ => Kq_ob (Kq_c rfl (hX _ _ _ _ _)) (fun _ h344 => Kq_so h344))
  | 11 => exact Kq_od (fun _ => Kq_ob (Kq_c rfl (hX _ _ _ _ _)) (fun _ h345 => Kq_so h345))
  | 12 => exact Kq_od (fun _ => Kq_ob (Kq_c rfl (hX _ _ _ _ _)) (fun _ h346 => Kq_so h346))
  | 13 => exact Kq_od (fun _ => Kq_ob (Kq_c rfl (hX _ _ _ _ _)) (fun _ h347 => Kq_so h347))
  | 14 => exact Kq_od (fun _ => Kq_ob (Kq_c rfl (hX _ _ _ _ _)) (fun _ h348 => Kq_so h348))
  | 15 => exact Kq_od (fun _ => Kq_ob (Kq_c rfl (hX _ _ _ _ _)) (fun _ h349 => Kq_so h349))
  | 16 => exact Kq_ite (Kq_od (fun _ => Kq_ob (Kq_c rfl (hX _ _ _ _ _)) (fun _ h350 => Kq_ite (Kq_ob (Kq_c h350 (kq_sweep _ _ _ _)) (fun _ h351 => Kq_ob (Kq_c h351 (kq_pop _ _ _ _)) (fun _ h352 => Kq_ob (Kq_c h352 (kq_single _ _ _ _)) (fun _ h353 => Kq_ob (Kq_c h353 (kq_answer _ _ _ _)) (fun _ h354 => Kq_ob (Kq_c h354 (kq_push _ _ _ _)) (fun _ h355 => Kq_c h355 (hX _ _ _ _ _))))))) (Kq_c h350 (hX _ _ _ _ _))))) (Kq_no _)
  | 17 => exact Kq_so rfl
  | b + 18 => exact Kq_no _
theorem kq_s_bounds {X : Nat → Nat → Nat → (Nat → Int32) → MS → Option (Int32 × MS)} (hX : ∀ e m b L (σ : MS), Kq (X e m b L σ) (kq σ)) (k d b : Nat) (L : Nat → Int32) (σ : MS) : Kq (s_bounds X k d b L σ) (kq σ) := by
  match b with
  | 0 => exact Kq_ite (Kq_od (fun _ => Kq_ob (Kq_c rfl (hX _ _ _ _ _)) (fun _ h356 => Kq_ite (Kq_ite (Kq_c h356 (hX _ _ _ _ _)) (Kq_ite (Kq_ite (Kq_od (fun _ => Kq_ob (Kq_c h356 (hX _ _ _ _ _)) (fun _ h357 => Kq_c h357 (hX _ _ _ _ _)))) (Kq_no _)) (Kq_c h356 (hX _ _ _ _ _)))) (Kq_no _)))) (Kq_no _)
  | 1 => exact Kq_ite (Kq_ite (Kq_od (fun _ => Kq_ob (Kq_c rfl (hX _ _ _ _ _)) (fun _ h358 => Kq_c h358 (hX _ _ _ _ _)))) (Kq_no _)) (Kq_c rfl (hX _ _ _ _ _))
  | 2 => exact Kq_ite (Kq_ob (Kq_c rfl (kq_sweep _ _ _ _)) (fun _ h359 => Kq_ite (Kq_ite (Kq_c h359 (hX _ _ _ _ _)) (Kq_c h359 (hX _ _ _ _ _))) (Kq_no _))) (Kq_c rfl (hX _ _ _ _ _))
  | 3 => exact Kq_c rfl (hX _ _ _ _ _)
  | 4 => exact Kq_ite (Kq_ite (Kq_c rfl (hX _ _ _ _ _)) (Kq_c rfl (hX _ _ _ _ _))) (Kq_no _)
  | 5 => exact Kq_c rfl (hX _ _ _ _ _)
  | 6 => exact Kq_ob (Kq_c rfl (kq_range _ _ _ _)) (fun _ h360 => Kq_ob (Kq_c h360 (kq_answer _ _ _ _)) (fun _ h361 => Kq_ob (Kq_c h361 (kq_push _ _ _ _)) (fun _ h362 => Kq_c h362 (hX _ _ _ _ _))))
  | 7 => exact Kq_so rfl
  | b + 8 => exact Kq_no _
theorem kq_s_callFunc {X : Nat → Nat → Nat → (Nat → Int32) → MS → Option (Int32 × MS)} (hX : ∀ e m b L (σ : MS), Kq (X e m b L σ) (kq σ)) (k d b : Nat) (L : Nat → Int32) (σ : MS) : Kq (s_callFunc X k d b L σ) (kq σ) := by
  match b with
  | 0 => exact Kq_ite (Kq_c rfl (hX _ _ _ _ _)) (Kq_no _)
  | 1 => exact Kq_ite (Kq_c rfl (hX _ _ _ _ _)) (Kq_ite (Kq_od (fun _ => Kq_ob (Kq_c rfl (hX _ _ _ _ _)) (fun _ h363 => Kq_ite (Kq_c h363 (hX _ _ _ _ _)) (Kq_no _)))) (Kq_c rfl (hX _ _ _ _ _)))
  | 2 => exact Kq_ite (Kq_c rfl (hX _ _ _ _ _)) (Kq_so rfl)
  | 3 => exact Kq_ite (Kq_c rfl (hX _ _ _ _ _)) (Kq_ite (Kq_ite (Kq_c rfl (hX _ _ _ _ _)) (Kq_c rfl (hX _ _ _ _ _))) (Kq_no _))
  | 4 => exact Kq_ob (Kq_c rfl (kq_fail _ _ _ _)) (fun _ h364 => Kq_so h364)
  | 5 => exact Kq_ob (Kq_c rfl (kq_sweep _ _ _ _)) (fun _ h365 => Kq_ite (Kq_c h365 (hX _ _ _ _ _)) (Kq_no _))
  | 6 => exact Kq_ite (Kq_c rfl (hX _ _ _ _ _)) (Kq_no _)
  | 7 => exact Kq_c rfl (hX _ _ _ _ _)
  | 8 => exact Kq_c rfl (hX _ _ _ _ _)
  | 9 => exact Kq_c rfl (hX _ _ _ _ _)
  | 10 => exact Kq_ite (Kq_c rfl (hX _ _ _ _ _)) (Kq_ite (Kq_ite (Kq_c rfl (hX _ _ _ _ _)) (Kq_ite (Kq_c rfl (hX _ _ _ _ _)) (Kq_no _))) (Kq_no _))
  | 11 => exact Kq_c rfl (hX _ _ _ _ _)
  | 12 => exact Kq_ite (Kq_c rfl (hX _ _ _ _ _)) (Kq_no _)
  | 13 => exact Kq_c rfl (hX _ _ _ _ _)
  | 14 => exact Kq_c rfl (hX _ _ _ _ _)
  | 15 => exact Kq_ite (Kq_od (fun _ => Kq_ob (Kq_c rfl (hX _ _ _ _ _)) (fun _ h366 => Kq_c h366 (hX _ _ _ _ _)))) (Kq_no _)
  | 16 => exact Kq_ite (Kq_c rfl (hX _ _ _ _ _)) (Kq_ite (Kq_c rfl (hX _ _ _ _ _)) (Kq_no _))
  | 17 => exact Kq_c rfl (hX _ _ _ _ _)
  | 18 => exact Kq_c rfl (hX _ _ _ _ _)
  | 19 => exact Kq_ite (Kq_c rfl (hX _ _ _ _ _)) (Kq_no _)
  | 20 => exact Kq_c rfl (hX _ _ _ _ _)
  | 21 => exact Kq_ite (Kq_c rfl (hX _ _ _ _ _)) (Kq_no _)
  | 22 => exact Kq_ite (Kq_ite (Kq_ob (Kq_c rfl (kq_answer _ _ _ _)) (fun _ h367 => Kq_c h367 (hX _ _ _ _ _))) (Kq_no _)) (Kq_c rfl (hX _ _ _ _ _))
  | 23 => exact Kq_so rfl
  | b + 24 => exact Kq_no _
theorem kq_s_choose {X : Nat → Nat → Nat → (Nat → Int32) → MS → Option (Int32 × MS)} (hX : ∀ e m b L (σ : MS), Kq (X e m b L σ) (kq σ)) (k d b : Nat) (L : Nat → Int32) (σ : MS) : Kq (s_choose X k d b L σ) (kq σ) := by
  match b with
  | 0 => exact Kq_ite (Kq_c rfl (hX _ _ _ _ _)) (Kq_no _)
  | 1 => exact Kq_ite (Kq_c rfl (hX _ _ _ _ _)) (Kq_ite (Kq_ite (Kq_ite (Kq_c rfl (hX _ _ _ _ _)) (Kq_ite (Kq_od (fun _ => Kq_ob (Kq_c rfl (hX _ _ _ _ _)) (fun _ h368 => Kq_ite (Kq_c h368 (hX _ _ _ _ _)) (Kq_c h368 (hX _ _ _ _ _))))) (Kq_no _))) (Kq_no _)) (Kq_c rfl (hX _ _ _ _ _)))
  | 2 => exact Kq_c rfl (hX _ _ _ _ _)
  | 3 => exact Kq_ite (Kq_c rfl (hX _ _ _ _ _)) (Kq_no _)
  | 4 => exact Kq_ite (Kq_ite (Kq_od (fun _ => Kq_ob (Kq_c rfl (hX _ _ _ _ _)) (fun _ h369 => Kq_c h369 (hX _ _ _ _ _)))) (Kq_no _)) (Kq_c rfl (hX _ _ _ _ _))
  | 5 => exact Kq_so rfl
  | b + 6 => exact Kq_no _
theorem kq_s_eval {X : Nat → Nat → Nat → (Nat → Int32) → MS → Option (Int32 × MS)} (hX : ∀ e m b L (σ : MS), Kq (X e m b L σ) (kq σ)) (k d b : Nat) (L : Nat → Int32) (σ : MS) : Kq (s_eval X k d b L σ) (kq σ) := by
  match b with
  | 0 => exact Kq_c rfl (hX _ _ _ _ _)
  | 1 => exact Kq_ite (Kq_ob (Kq_c rfl (kq_isOver _ _ _ _)) (fun _ h370 => Kq_ite (Kq_c h370 (hX _ _ _ _ _)) (Kq_ite (Kq_c h370 (hX _ _ _ _ _)) (Kq_no _)))) (Kq_no _)
  | 2 => exact Kq_od (fun _ => Kq_ob (Kq_c rfl (hX _ _ _ _ _)) (fun _ h371 => Kq_c h371 (hX _ _ _ _ _)))
  | 3 => exact Kq_ite (Kq_c rfl (hX _ _ _ _ _)) (Kq_ite (Kq_ite (Kq_od (fun _ => Kq_ob (Kq_c rfl (hX _ _ _ _ _)) (fun _ h372 => Kq_c h372 (hX _ _ _ _ _)))) (Kq_no _)) (Kq_c rfl (hX _ _ _ _ _)))
  | 4 => exact Kq_so rfl
  | b + 5 => exact Kq_no _
theorem kq_s_former {X : Nat → Nat → Nat → (Nat → Int32) → MS → Option (Int32 × MS)} (hX : ∀ e m b L (σ : MS), Kq (X e m b L σ) (kq σ)) (k d b : Nat) (L : Nat → Int32) (σ : MS) : Kq (s_former X k d b L σ) (kq σ) := by
  match b with
  | 0 => exact Kq_ite (Kq_od (fun _ => Kq_ob (Kq_c rfl (hX _ _ _ _ _)) (fun _ h373 => Kq_c h373 (hX _ _ _ _ _)))) (Kq_no _)
  | 1 => exact Kq_ite (Kq_c rfl (hX _ _ _ _ _)) (Kq_ite (Kq_ite (Kq_ite (Kq_c rfl (hX _ _ _ _ _)) (Kq_ite (Kq_od (fun _ => Kq_ob (Kq_c rfl (hX _ _ _ _ _)) (fun _ h374 => Kq_ite (Kq_c h374 (hX _ _ _ _ _)) (Kq_c h374 (hX _ _ _ _ _))))) (Kq_no _))) (Kq_no _)) (Kq_c rfl (hX _ _ _ _ _)))
  | 2 => exact Kq_ite (Kq_od (fun _ => Kq_ob (Kq_c rfl (hX _ _ _ _ _)) (fun _ h375 => Kq_ite (Kq_ite (Kq_ite (Kq_ite (Kq_ite (Kq_ob (Kq_c h375 (kq_fail _ _ _ _)) (fun _ h376 => Kq_c h376 (hX _ _ _ _ _))) (Kq_c h375 (hX _ _ _ _ _))) (Kq_no _)) (Kq_c h375 (hX _ _ _ _ _))) (Kq_no _)) (Kq_c h375 (hX _ _ _ _ _))))) (Kq_no _)
  | 3 => exact Kq_ite (Kq_ite (Kq_od (fun _ => Kq_ob (Kq_c rfl (hX _ _ _ _ _)) (fun _ h377 => Kq_ite (Kq_c h377 (hX _ _ _ _ _)) (Kq_c h377 (hX _ _ _ _ _))))) (Kq_no _)) (Kq_c rfl (hX _ _ _ _ _))
  | 4 => exact Kq_c rfl (hX _ _ _ _ _)
  | 5 => exact Kq_c rfl (hX _ _ _ _ _)
  | 6 => exact Kq_c rfl (hX _ _ _ _ _)
  | 7 => exact Kq_ite (Kq_ob (Kq_c rfl (kq_clear _ _ _ _)) (fun _ h378 => Kq_ite (Kq_ite (Kq_ite (Kq_ob (Kq_c h378 (kq_setOf _ _ _ _)) (fun _ h379 => Kq_c h379 (hX _ _ _ _ _))) (Kq_c h378 (hX _ _ _ _ _))) (Kq_no _)) (Kq_c h378 (hX _ _ _ _ _)))) (Kq_no _)
  | 8 => exact Kq_ob (Kq_c rfl (kq_tupleOf _ _ _ _)) (fun _ h380 => Kq_c h380 (hX _ _ _ _ _))
  | 9 => exact Kq_ob (Kq_c rfl (kq_answer _ _ _ _)) (fun _ h381 => Kq_ob (Kq_c h381 (kq_push _ _ _ _)) (fun _ h382 => Kq_c h382 (hX _ _ _ _ _)))
  | 10 => exact Kq_so rfl
  | b + 11 => exact Kq_no _
theorem kq_s_goOn {X : Nat → Nat → Nat → (Nat → Int32) → MS → Option (Int32 × MS)} (hX : ∀ e m b L (σ : MS), Kq (X e m b L σ) (kq σ)) (k d b : Nat) (L : Nat → Int32) (σ : MS) : Kq (s_goOn X k d b L σ) (kq σ) := by
  match b with
  | 0 => exact Kq_c rfl (hX _ _ _ _ _)
  | 1 => exact Kq_ite (Kq_ob (Kq_c rfl (kq_sweep _ _ _ _)) (fun _ h383 => Kq_ite (Kq_c h383 (hX _ _ _ _ _)) (Kq_ite (Kq_c h383 (hX _ _ _ _ _)) (Kq_c h383 (hX _ _ _ _ _))))) (Kq_c rfl (hX _ _ _ _ _))
  | 2 => exact Kq_ite (Kq_ite (Kq_c rfl (hX _ _ _ _ _)) (Kq_no _)) (Kq_no _)
  | 3 => exact Kq_ite (Kq_so rfl) (Kq_c rfl (hX _ _ _ _ _))
  | 4 => exact Kq_od (fun _ => Kq_ob (Kq_c rfl (hX _ _ _ _ _)) (fun _ h384 => Kq_ite (Kq_c h384 (hX _ _ _ _ _)) (Kq_so h384)))
  | 5 => exact Kq_ite (Kq_c rfl (hX _ _ _ _ _)) (Kq_no _)
  | 6 => exact Kq_ite (Kq_so rfl) (Kq_c rfl (hX _ _ _ _ _))
  | 7 => exact Kq_ite (Kq_ob (Kq_c rfl (kq_stepIter _ _ _ _)) (fun _ h385 => Kq_ite (Kq_ite (Kq_c h385 (hX _ _ _ _ _)) (Kq_c h385 (hX _ _ _ _ _))) (Kq_c h385 (hX _ _ _ _ _)))) (Kq_no _)
  | 8 => exact Kq_ite (Kq_c rfl (hX _ _ _ _ _)) (Kq_ite (Kq_ite (Kq_ite (Kq_so rfl) (Kq_c rfl (hX _ _ _ _ _))) (Kq_no _)) (Kq_no _))
  | 9 => exact Kq_so rfl
  | b + 10 => exact Kq_no _
theorem kq_s_goesOn {X : Nat → Nat → Nat → (Nat → Int32) → MS → Option (Int32 × MS)} (hX : ∀ e m b L (σ : MS), Kq (X e m b L σ) (kq σ)) (k d b : Nat) (L : Nat → Int32) (σ : MS) : Kq (s_goesOn X k d b L σ) (kq σ) := by
  match b with
  | 0 => exact Kq_ite (Kq_ite (Kq_so rfl) (Kq_c rfl (hX _ _ _ _ _))) (Kq_no _)
  | 1 => exact Kq_ite (Kq_c rfl (hX _ _ _ _ _)) (Kq_ite (Kq_c rfl (hX _ _ _ _ _)) (Kq_c rfl (hX _ _ _ _ _)))
  | 2 => exact Kq_ob (Kq_c rfl (kq_isTrue _ _ _ _)) (fun _ h386 => Kq_ite (Kq_ite (Kq_c h386 (hX _ _ _ _ _)) (Kq_c h386 (hX _ _ _ _ _))) (Kq_c h386 (hX _ _ _ _ _)))
  | 3 => exact Kq_c rfl (hX _ _ _ _ _)
  | 4 => exact Kq_ite (Kq_ite (Kq_od (fun _ => Kq_ob (Kq_c rfl (hX _ _ _ _ _)) (fun _ h387 => Kq_ite (Kq_ob (Kq_c h387 (kq_isTrue _ _ _ _)) (fun _ h388 => Kq_ite (Kq_c h388 (hX _ _ _ _ _)) (Kq_c h388 (hX _ _ _ _ _)))) (Kq_c h387 (hX _ _ _ _ _))))) (Kq_no _)) (Kq_c rfl (hX _ _ _ _ _))
  | 5 => exact Kq_c rfl (hX _ _ _ _ _)
  | 6 => exact Kq_c rfl (hX _ _ _ _ _)
  | 7 => exact Kq_ob (Kq_c rfl (kq_truth _ _ _ _)) (fun _ h389 => Kq_ob (Kq_c h389 (kq_answer _ _ _ _)) (fun _ h390 => Kq_ob (Kq_c h390 (kq_push _ _ _ _)) (fun _ h391 => Kq_so h391)))
  | 8 => exact Kq_ite (Kq_od (fun _ => Kq_ob (Kq_c rfl (hX _ _ _ _ _)) (fun _ h392 => Kq_ite (Kq_ite (Kq_ite (Kq_od (fun _ => Kq_ob (Kq_c h392 (hX _ _ _ _ _)) (fun _ h393 => Kq_c h393 (hX _ _ _ _ _)))) (Kq_no _)) (Kq_c h392 (hX _ _ _ _ _))) (Kq_c h392 (hX _ _ _ _ _))))) (Kq_no _)
  | 9 => exact Kq_ite (Kq_c rfl (hX _ _ _ _ _)) (Kq_so rfl)
  | 10 => exact Kq_ob (Kq_c rfl (kq_sweep _ _ _ _)) (fun _ h394 => Kq_ite (Kq_c h394 (hX _ _ _ _ _)) (Kq_c h394 (hX _ _ _ _ _)))
  | 11 => exact Kq_c rfl (hX _ _ _ _ _)
  | 12 => exact Kq_c rfl (hX _ _ _ _ _)
  | 13 => exact Kq_ite (Kq_ite (Kq_ite (Kq_c rfl (hX _ _ _ _ _)) (Kq_ite (Kq_c rfl (hX _ _ _ _ _)) (Kq_ite (Kq_c rfl (hX _ _ _ _ _)) (Kq_c rfl (hX _ _ _ _ _))))) (Kq_no _)) (Kq_no _)
  | 14 => exact Kq_ite (Kq_ob (Kq_c rfl (kq_slice _ _ _ _)) (fun _ h395 => Kq_c h395 (hX _ _ _ _ _))) (Kq_no _)
  | 15 => exact Kq_ob (Kq_c rfl (kq_partAt _ _ _ _)) (fun _ h396 => Kq_c h396 (hX _ _ _ _ _))
  | 16 => exact Kq_ob (Kq_c rfl (kq_image _ _ _ _)) (fun _ h397 => Kq_c h397 (hX _ _ _ _ _))
  | 17 => exact Kq_ite (Kq_ob (Kq_c rfl (kq_operate _ _ _ _)) (fun _ h398 => Kq_c h398 (hX _ _ _ _ _))) (Kq_no _)
  | 18 => exact Kq_ob (Kq_c rfl (kq_answer _ _ _ _)) (fun _ h399 => Kq_ob (Kq_c h399 (kq_push _ _ _ _)) (fun _ h400 => Kq_so h400))
  | b + 19 => exact Kq_no _
theorem kq_s_holds {X : Nat → Nat → Nat → (Nat → Int32) → MS → Option (Int32 × MS)} (hX : ∀ e m b L (σ : MS), Kq (X e m b L σ) (kq σ)) (k d b : Nat) (L : Nat → Int32) (σ : MS) : Kq (s_holds X k d b L σ) (kq σ) := by
  match b with
  | 0 => exact Kq_od (fun _ => Kq_ob (Kq_c rfl (hX _ _ _ _ _)) (fun _ h401 => Kq_ite (Kq_ob (Kq_c h401 (kq_isTrue _ _ _ _)) (fun _ h402 => Kq_ite (Kq_c h402 (hX _ _ _ _ _)) (Kq_c h402 (hX _ _ _ _ _)))) (Kq_c h401 (hX _ _ _ _ _))))
  | 1 => exact Kq_c rfl (hX _ _ _ _ _)
  | 2 => exact Kq_ite (Kq_so rfl) (Kq_no _)
  | b + 3 => exact Kq_no _
theorem kq_s_openIter {X : Nat → Nat → Nat → (Nat → Int32) → MS → Option (Int32 × MS)} (hX : ∀ e m b L (σ : MS), Kq (X e m b L σ) (kq σ)) (k d b : Nat) (L : Nat → Int32) (σ : MS) : Kq (s_openIter X k d b L σ) (kq σ) := by
  match b with
  | 0 => exact Kq_ite (Kq_od (fun _ => Kq_ob (Kq_c rfl (hX _ _ _ _ _)) (fun _ h403 => Kq_ite (Kq_c h403 (hX _ _ _ _ _)) (Kq_so h403)))) (Kq_no _)
  | 1 => exact Kq_ob (Kq_c rfl (kq_pop _ _ _ _)) (fun _ h404 => Kq_ob (Kq_c h404 (kq_isRow _ _ _ _)) (fun _ h405 => Kq_ite (Kq_ob (Kq_c h405 (kq_fail _ _ _ _)) (fun _ h406 => Kq_so h406)) (Kq_c h405 (hX _ _ _ _ _))))
  | 2 => exact Kq_ite (Kq_c rfl (hX _ _ _ _ _)) (Kq_no _)
  | 3 => exact Kq_ite (Kq_c rfl (hX _ _ _ _ _)) (Kq_no _)
  | 4 => exact Kq_so rfl
  | b + 5 => exact Kq_no _
theorem kq_s_quantify {X : Nat → Nat → Nat → (Nat → Int32) → MS → Option (Int32 × MS)} (hX : ∀ e m b L (σ : MS), Kq (X e m b L σ) (kq σ)) (k d b : Nat) (L : Nat → Int32) (σ : MS) : Kq (s_quantify X k d b L σ) (kq σ) := by
  match b with
  | 0 => exact Kq_ite (Kq_ite (Kq_c rfl (hX _ _ _ _ _)) (Kq_c rfl (hX _ _ _ _ _))) (Kq_no _)
  | 1 => exact Kq_c rfl (hX _ _ _ _ _)
  | 2 => exact Kq_ite (Kq_od (fun _ => Kq_ob (Kq_c rfl (hX _ _ _ _ _)) (fun _ h407 => Kq_c h407 (hX _ _ _ _ _)))) (Kq_no _)
  | 3 => exact Kq_ite (Kq_c rfl (hX _ _ _ _ _)) (Kq_ite (Kq_ite (Kq_od (fun _ => Kq_ob (Kq_c rfl (hX _ _ _ _ _)) (fun _ h408 => Kq_ite (Kq_ite (Kq_c h408 (hX _ _ _ _ _)) (Kq_c h408 (hX _ _ _ _ _))) (Kq_c h408 (hX _ _ _ _ _))))) (Kq_no _)) (Kq_c rfl (hX _ _ _ _ _)))
  | 4 => exact Kq_c rfl (hX _ _ _ _ _)
  | 5 => exact Kq_ite (Kq_ite (Kq_ite (Kq_od (fun _ => Kq_ob (Kq_c rfl (hX _ _ _ _ _)) (fun _ h409 => Kq_ite (Kq_c h409 (hX _ _ _ _ _)) (Kq_c h409 (hX _ _ _ _ _))))) (Kq_no _)) (Kq_c rfl (hX _ _ _ _ _))) (Kq_c rfl (hX _ _ _ _ _))
  | 6 => exact Kq_c rfl (hX _ _ _ _ _)
  | 7 => exact Kq_c rfl (hX _ _ _ _ _)
  | 8 => exact Kq_c rfl (hX _ _ _ _ _)
  | 9 => exact Kq_ite (Kq_ob (Kq_c rfl (kq_clear _ _ _ _)) (fun _ h410 => Kq_ite (Kq_ite (Kq_c h410 (hX _ _ _ _ _)) (Kq_c h410 (hX _ _ _ _ _))) (Kq_c h410 (hX _ _ _ _ _)))) (Kq_no _)
  | 10 => exact Kq_c rfl (hX _ _ _ _ _)
  | 11 => exact Kq_ob (Kq_c rfl (kq_truth _ _ _ _)) (fun _ h411 => Kq_ob (Kq_c h411 (kq_answer _ _ _ _)) (fun _ h412 => Kq_ob (Kq_c h412 (kq_push _ _ _ _)) (fun _ h413 => Kq_c h413 (hX _ _ _ _ _))))
  | 12 => exact Kq_so rfl
  | b + 13 => exact Kq_no _
theorem kq_s_setBrackets {X : Nat → Nat → Nat → (Nat → Int32) → MS → Option (Int32 × MS)} (hX : ∀ e m b L (σ : MS), Kq (X e m b L σ) (kq σ)) (k d b : Nat) (L : Nat → Int32) (σ : MS) : Kq (s_setBrackets X k d b L σ) (kq σ) := by
  match b with
  | 0 => exact Kq_ite (Kq_c rfl (hX _ _ _ _ _)) (Kq_no _)
  | 1 => exact Kq_ite (Kq_c rfl (hX _ _ _ _ _)) (Kq_ite (Kq_od (fun _ => Kq_ob (Kq_c rfl (hX _ _ _ _ _)) (fun _ h414 => Kq_ite (Kq_ite (Kq_ite (Kq_c h414 (hX _ _ _ _ _)) (Kq_c h414 (hX _ _ _ _ _))) (Kq_no _)) (Kq_c h414 (hX _ _ _ _ _))))) (Kq_c rfl (hX _ _ _ _ _)))
  | 2 => exact Kq_ite (Kq_c rfl (hX _ _ _ _ _)) (Kq_c rfl (hX _ _ _ _ _))
  | 3 => exact Kq_c rfl (hX _ _ _ _ _)
  | 4 => exact Kq_c rfl (hX _ _ _ _ _)
  | 5 => exact Kq_ite (Kq_ite (Kq_ite (Kq_c rfl (hX _ _ _ _ _)) (Kq_c rfl (hX _ _ _ _ _))) (Kq_c rfl (hX _ _ _ _ _))) (Kq_c rfl (hX _ _ _ _ _))
  | 6 => exact Kq_c rfl (hX _ _ _ _ _)
  | 7 => exact Kq_ite (Kq_ob (Kq_c rfl (kq_distinct _ _ _ _)) (fun _ h415 => Kq_c h415 (hX _ _ _ _ _))) (Kq_c rfl (hX _ _ _ _ _))
  | 8 => exact Kq_ite (Kq_c rfl (hX _ _ _ _ _)) (Kq_ite (Kq_ob (Kq_c rfl (kq_size _ _ _ _)) (fun _ h416 => Kq_c h416 (hX _ _ _ _ _))) (Kq_no _))
  | 9 => exact Kq_ite (Kq_c rfl (hX _ _ _ _ _)) (Kq_c rfl (hX _ _ _ _ _))
  | 10 => exact Kq_c rfl (hX _ _ _ _ _)
  | 11 => exact Kq_ite (Kq_c rfl (hX _ _ _ _ _)) (Kq_c rfl (hX _ _ _ _ _))
  | 12 => exact Kq_c rfl (hX _ _ _ _ _)
  | 13 => exact Kq_c rfl (hX _ _ _ _ _)
  | 14 => exact Kq_ite (Kq_c rfl (hX _ _ _ _ _)) (Kq_no _)
  | 15 => exact Kq_ite (Kq_ite (Kq_c rfl (hX _ _ _ _ _)) (Kq_ob (Kq_c rfl (kq_fail _ _ _ _)) (fun _ h417 => Kq_c h417 (hX _ _ _ _ _)))) (Kq_c rfl (hX _ _ _ _ _))
  | 16 => exact Kq_ite (Kq_ite (Kq_c rfl (hX _ _ _ _ _)) (Kq_ob (Kq_c rfl (kq_fail _ _ _ _)) (fun _ h418 => Kq_c h418 (hX _ _ _ _ _)))) (Kq_c rfl (hX _ _ _ _ _))
  | 17 => exact Kq_ite (Kq_ob (Kq_c rfl (kq_sweep _ _ _ _)) (fun _ h419 => Kq_ob (Kq_c h419 (kq_setOf _ _ _ _)) (fun _ h420 => Kq_ob (Kq_c h420 (kq_answer _ _ _ _)) (fun _ h421 => Kq_ob (Kq_c h421 (kq_push _ _ _ _)) (fun _ h422 => Kq_c h422 (hX _ _ _ _ _)))))) (Kq_c rfl (hX _ _ _ _ _))
  | 18 => exact Kq_so rfl
  | b + 19 => exact Kq_no _
theorem kq_s_tupleBrackets {X : Nat → Nat → Nat → (Nat → Int32) → MS → Option (Int32 × MS)} (hX : ∀ e m b L (σ : MS), Kq (X e m b L σ) (kq σ)) (k d b : Nat) (L : Nat → Int32) (σ : MS) : Kq (s_tupleBrackets X k d b L σ) (kq σ) := by
  match b with
  | 0 => exact Kq_ite (Kq_c rfl (hX _ _ _ _ _)) (Kq_no _)
  | 1 => exact Kq_ite (Kq_c rfl (hX _ _ _ _ _)) (Kq_ite (Kq_od (fun _ => Kq_ob (Kq_c rfl (hX _ _ _ _ _)) (fun _ h423 => Kq_ite (Kq_ob (Kq_c h423 (kq_pop _ _ _ _)) (fun _ h424 => Kq_c h424 (hX _ _ _ _ _))) (Kq_c h423 (hX _ _ _ _ _))))) (Kq_c rfl (hX _ _ _ _ _)))
  | 2 => exact Kq_c rfl (hX _ _ _ _ _)
  | 3 => exact Kq_ite (Kq_c rfl (hX _ _ _ _ _)) (Kq_c rfl (hX _ _ _ _ _))
  | 4 => exact Kq_ite (Kq_c rfl (hX _ _ _ _ _)) (Kq_ob (Kq_c rfl (kq_size _ _ _ _)) (fun _ h425 => Kq_c h425 (hX _ _ _ _ _)))
  | 5 => exact Kq_ite (Kq_c rfl (hX _ _ _ _ _)) (Kq_ite (Kq_c rfl (hX _ _ _ _ _)) (Kq_ob (Kq_c rfl (kq_push _ _ _ _)) (fun _ h426 => Kq_c h426 (hX _ _ _ _ _))))
  | 6 => exact Kq_ob (Kq_c rfl (kq_push _ _ _ _)) (fun _ h427 => Kq_c h427 (hX _ _ _ _ _))
  | 7 => exact Kq_ite (Kq_c rfl (hX _ _ _ _ _)) (Kq_c rfl (hX _ _ _ _ _))
  | 8 => exact Kq_c rfl (hX _ _ _ _ _)
  | 9 => exact Kq_c rfl (hX _ _ _ _ _)
  | 10 => exact Kq_ite (Kq_c rfl (hX _ _ _ _ _)) (Kq_no _)
  | 11 => exact Kq_ite (Kq_ite (Kq_c rfl (hX _ _ _ _ _)) (Kq_ob (Kq_c rfl (kq_fail _ _ _ _)) (fun _ h428 => Kq_c h428 (hX _ _ _ _ _)))) (Kq_c rfl (hX _ _ _ _ _))
  | 12 => exact Kq_ite (Kq_ob (Kq_c rfl (kq_sweep _ _ _ _)) (fun _ h429 => Kq_ob (Kq_c h429 (kq_tupleOf _ _ _ _)) (fun _ h430 => Kq_ob (Kq_c h430 (kq_answer _ _ _ _)) (fun _ h431 => Kq_ob (Kq_c h431 (kq_push _ _ _ _)) (fun _ h432 => Kq_c h432 (hX _ _ _ _ _)))))) (Kq_c rfl (hX _ _ _ _ _))
  | 13 => exact Kq_so rfl
  | b + 14 => exact Kq_no _
theorem kq_GV : ∀ (k d m b : Nat) (L : Nat → Int32) (σ : MS), Kq (x_GV k d m b L σ) (kq σ) := by
  intro k
  induction k with
  | zero => intro d m b L σ; exact Kq_no _
  | succ k ih =>
    intro d m b L σ
    match m with
    | 0 => exact kq_s_begins ih k d b L σ
    | 1 => exact kq_s_bounds ih k d b L σ
    | 2 => exact kq_s_callFunc ih k d b L σ
    | 3 => exact kq_s_choose ih k d b L σ
    | 4 => exact kq_s_eval ih k d b L σ
    | 5 => exact kq_s_former ih k d b L σ
    | 6 => exact kq_s_goOn ih k d b L σ
    | 7 => exact kq_s_goesOn ih k d b L σ
    | 8 => exact kq_s_holds ih k d b L σ
    | 9 => exact kq_s_openIter ih k d b L σ
    | 10 => exact kq_s_quantify ih k d b L σ
    | 11 => exact kq_s_setBrackets ih k d b L σ
    | 12 => exact kq_s_tupleBrackets ih k d b L σ
    | m + 13 => exact Kq_no _
theorem kq_nameOf : ∀ (k b : Nat) (L : Nat → Int32) (σ : MS), Kq (x_nameOf k b L σ) (kq σ) := by
  intro k
  induction k with
  | zero => intro b L σ; exact Kq_no _
  | succ k ih =>
    intro b L σ
    match b with
    | 0 =>
      refine Kq_eq (by rw [x_nameOf]) ?_
      exact Kq_c rfl (ih _ _ _)
    | 1 =>
      refine Kq_eq (by rw [x_nameOf]) ?_
      exact Kq_ite (Kq_ite (Kq_c rfl (ih _ _ _)) (Kq_ite (Kq_c rfl (ih _ _ _)) (Kq_no _))) (Kq_no _)
    | 2 =>
      refine Kq_eq (by rw [x_nameOf]) ?_
      exact Kq_so rfl
    | b + 3 =>
      refine Kq_eq (by rw [x_nameOf]) (Kq_no _)
theorem kq_eval (k b : Nat) (L : Nat → Int32) (σ : MS) : Kq (x_eval k b L σ) (kq σ) := kq_GV k 1300 4 b L σ
theorem kq_workParts : ∀ (k b : Nat) (L : Nat → Int32) (σ : MS), Kq (x_workParts k b L σ) (kq σ) := by
  intro k
  induction k with
  | zero => intro b L σ; exact Kq_no _
  | succ k ih =>
    intro b L σ
    match b with
    | 0 =>
      refine Kq_eq (by rw [x_workParts]) ?_
      exact Kq_ob (Kq_c rfl (kq_nameOf _ _ _ _)) (fun _ h433 => Kq_c h433 (ih _ _ _))
    | 1 =>
      refine Kq_eq (by rw [x_workParts]) ?_
      exact Kq_ite (Kq_c rfl (ih _ _ _)) (Kq_ite (Kq_ite (Kq_ite (Kq_ob (Kq_c rfl (kq_eval _ _ _ _)) (fun _ h434 => Kq_ite (Kq_ite (Kq_ite (Kq_ite (Kq_ob (Kq_c h434 (kq_eval _ _ _ _)) (fun _ h435 => Kq_c h435 (ih _ _ _))) (Kq_no _)) (Kq_c h434 (ih _ _ _))) (Kq_c h434 (ih _ _ _))) (Kq_no _))) (Kq_no _)) (Kq_no _)) (Kq_c rfl (ih _ _ _)))
    | 2 =>
      refine Kq_eq (by rw [x_workParts]) ?_
      exact Kq_so rfl
    | b + 3 =>
      refine Kq_eq (by rw [x_workParts]) (Kq_no _)
theorem kq_keysOf : ∀ (k b : Nat) (L : Nat → Int32) (σ : MS), Kq (x_keysOf k b L σ) (kq σ) := by
  intro k
  induction k with
  | zero => intro b L σ; exact Kq_no _
  | succ k ih =>
    intro b L σ
    match b with
    | 0 =>
      refine Kq_eq (by rw [x_keysOf]) ?_
      exact Kq_ite (Kq_c rfl (ih _ _ _)) (Kq_c rfl (ih _ _ _))
    | 1 =>
      refine Kq_eq (by rw [x_keysOf]) ?_
      exact Kq_ite (Kq_c rfl (ih _ _ _)) (Kq_c rfl (ih _ _ _))
    | 2 =>
      refine Kq_eq (by rw [x_keysOf]) ?_
      exact Kq_c rfl (ih _ _ _)
    | 3 =>
      refine Kq_eq (by rw [x_keysOf]) ?_
      exact Kq_so rfl
    | b + 4 =>
      refine Kq_eq (by rw [x_keysOf]) (Kq_no _)
theorem kq_readParts : ∀ (k b : Nat) (L : Nat → Int32) (σ : MS), Kq (x_readParts k b L σ) (kq σ) := by
  intro k
  induction k with
  | zero => intro b L σ; exact Kq_no _
  | succ k ih =>
    intro b L σ
    match b with
    | 0 =>
      refine Kq_eq (by rw [x_readParts]) ?_
      exact Kq_ob (Kq_c rfl (kq_nameOf _ _ _ _)) (fun _ h436 => Kq_ob (Kq_c h436 (kq_valueOf _ _ _ _)) (fun _ h437 => Kq_ob (Kq_c h437 (kq_push _ _ _ _)) (fun _ h438 => Kq_c h438 (ih _ _ _))))
    | 1 =>
      refine Kq_eq (by rw [x_readParts]) ?_
      exact Kq_ite (Kq_c rfl (ih _ _ _)) (Kq_ite (Kq_ite (Kq_ite (Kq_c rfl (ih _ _ _)) (Kq_c rfl (ih _ _ _))) (Kq_no _)) (Kq_c rfl (ih _ _ _)))
    | 2 =>
      refine Kq_eq (by rw [x_readParts]) ?_
      exact Kq_ite (Kq_ite (Kq_ob (Kq_c rfl (kq_sweep _ _ _ _)) (fun _ h439 => Kq_ite (Kq_ite (Kq_ite (Kq_ite (Kq_ob (Kq_c h439 (kq_partAt _ _ _ _)) (fun _ h440 => Kq_c h440 (ih _ _ _))) (Kq_no _)) (Kq_c h439 (ih _ _ _))) (Kq_no _)) (Kq_no _))) (Kq_no _)) (Kq_c rfl (ih _ _ _))
    | 3 =>
      refine Kq_eq (by rw [x_readParts]) ?_
      exact Kq_ite (Kq_ite (Kq_ite (Kq_ob (Kq_c rfl (kq_image _ _ _ _)) (fun _ h441 => Kq_c h441 (ih _ _ _))) (Kq_no _)) (Kq_c rfl (ih _ _ _))) (Kq_no _)
    | 4 =>
      refine Kq_eq (by rw [x_readParts]) ?_
      exact Kq_ite (Kq_ite (Kq_ob (Kq_c rfl (kq_slice _ _ _ _)) (fun _ h442 => Kq_c h442 (ih _ _ _))) (Kq_no _)) (Kq_no _)
    | 5 =>
      refine Kq_eq (by rw [x_readParts]) ?_
      exact Kq_ob (Kq_c rfl (kq_answer _ _ _ _)) (fun _ h443 => Kq_ob (Kq_c h443 (kq_push _ _ _ _)) (fun _ h444 => Kq_ite (Kq_ob (Kq_c h444 (kq_keysOf _ _ _ _)) (fun _ h445 => Kq_c h445 (ih _ _ _))) (Kq_no _)))
    | 6 =>
      refine Kq_eq (by rw [x_readParts]) ?_
      exact Kq_so rfl
    | b + 7 =>
      refine Kq_eq (by rw [x_readParts]) (Kq_no _)
theorem kq_keysIn : ∀ (k b : Nat) (L : Nat → Int32) (σ : MS), Kq (x_keysIn k b L σ) (kq σ) := by
  intro k
  induction k with
  | zero => intro b L σ; exact Kq_no _
  | succ k ih =>
    intro b L σ
    match b with
    | 0 =>
      refine Kq_eq (by rw [x_keysIn]) ?_
      exact Kq_c rfl (ih _ _ _)
    | 1 =>
      refine Kq_eq (by rw [x_keysIn]) ?_
      exact Kq_ite (Kq_ite (Kq_c rfl (ih _ _ _)) (Kq_ite (Kq_ob (Kq_c rfl (kq_keysOf _ _ _ _)) (fun _ h446 => Kq_ite (Kq_c h446 (ih _ _ _)) (Kq_no _))) (Kq_no _))) (Kq_no _)
    | 2 =>
      refine Kq_eq (by rw [x_keysIn]) ?_
      exact Kq_so rfl
    | b + 3 =>
      refine Kq_eq (by rw [x_keysIn]) (Kq_no _)
theorem kq_putPlace : ∀ (k b : Nat) (L : Nat → Int32) (σ : MS), Kq (x_putPlace k b L σ) (kq σ) := by
  intro k
  induction k with
  | zero => intro b L σ; exact Kq_no _
  | succ k ih =>
    intro b L σ
    match b with
    | 0 =>
      refine Kq_eq (by rw [x_putPlace]) ?_
      exact Kq_ite (Kq_ite (Kq_c rfl (ih _ _ _)) (Kq_ite (Kq_so rfl) (Kq_c rfl (ih _ _ _)))) (Kq_no _)
    | 1 =>
      refine Kq_eq (by rw [x_putPlace]) ?_
      exact Kq_ite (Kq_c rfl (ih _ _ _)) (Kq_ob (Kq_c rfl (kq_fail _ _ _ _)) (fun _ h447 => Kq_so h447))
    | 2 =>
      refine Kq_eq (by rw [x_putPlace]) ?_
      exact Kq_c rfl (ih _ _ _)
    | 3 =>
      refine Kq_eq (by rw [x_putPlace]) ?_
      exact Kq_ite (Kq_c rfl (ih _ _ _)) (Kq_ite (Kq_c rfl (ih _ _ _)) (Kq_c rfl (ih _ _ _)))
    | 4 =>
      refine Kq_eq (by rw [x_putPlace]) ?_
      exact Kq_ite (Kq_c rfl (ih _ _ _)) (Kq_c rfl (ih _ _ _))
    | 5 =>
      refine Kq_eq (by rw [x_putPlace]) ?_
      exact Kq_ite (Kq_c rfl (ih _ _ _)) (Kq_ite (Kq_c rfl (ih _ _ _)) (Kq_no _))
    | 6 =>
      refine Kq_eq (by rw [x_putPlace]) ?_
      exact Kq_c rfl (ih _ _ _)
    | 7 =>
      refine Kq_eq (by rw [x_putPlace]) ?_
      exact Kq_ob (Kq_c rfl (kq_push _ _ _ _)) (fun _ h448 => Kq_c h448 (ih _ _ _))
    | 8 =>
      refine Kq_eq (by rw [x_putPlace]) ?_
      exact Kq_ob (Kq_c rfl (kq_tupleOf _ _ _ _)) (fun _ h449 => Kq_so h449)
    | b + 9 =>
      refine Kq_eq (by rw [x_putPlace]) (Kq_no _)
theorem kq_pushOthers : ∀ (k b : Nat) (L : Nat → Int32) (σ : MS), Kq (x_pushOthers k b L σ) (kq σ) := by
  intro k
  induction k with
  | zero => intro b L σ; exact Kq_no _
  | succ k ih =>
    intro b L σ
    match b with
    | 0 =>
      refine Kq_eq (by rw [x_pushOthers]) ?_
      exact Kq_c rfl (ih _ _ _)
    | 1 =>
      refine Kq_eq (by rw [x_pushOthers]) ?_
      exact Kq_ite (Kq_ite (Kq_c rfl (ih _ _ _)) (Kq_ite (Kq_ite (Kq_ob (Kq_c rfl (kq_compare _ _ _ _)) (fun _ h450 => Kq_ite (Kq_c h450 (ih _ _ _)) (Kq_ob (Kq_c h450 (kq_push _ _ _ _)) (fun _ h451 => Kq_c h451 (ih _ _ _))))) (Kq_no _)) (Kq_no _))) (Kq_no _)
    | 2 =>
      refine Kq_eq (by rw [x_pushOthers]) ?_
      exact Kq_c rfl (ih _ _ _)
    | 3 =>
      refine Kq_eq (by rw [x_pushOthers]) ?_
      exact Kq_so rfl
    | b + 4 =>
      refine Kq_eq (by rw [x_pushOthers]) (Kq_no _)
theorem kq_pair : ∀ (k b : Nat) (L : Nat → Int32) (σ : MS), Kq (x_pair k b L σ) (kq σ) := by
  intro k
  induction k with
  | zero => intro b L σ; exact Kq_no _
  | succ k ih =>
    intro b L σ
    match b with
    | 0 =>
      refine Kq_eq (by rw [x_pair]) ?_
      exact Kq_ob (Kq_c rfl (kq_push _ _ _ _)) (fun _ h452 => Kq_ob (Kq_c h452 (kq_push _ _ _ _)) (fun _ h453 => Kq_ob (Kq_c h453 (kq_tupleOf _ _ _ _)) (fun _ h454 => Kq_so h454)))
    | b + 1 =>
      refine Kq_eq (by rw [x_pair]) (Kq_no _)
theorem kq_putAt : ∀ (k b : Nat) (L : Nat → Int32) (σ : MS), Kq (x_putAt k b L σ) (kq σ) := by
  intro k
  induction k with
  | zero => intro b L σ; exact Kq_no _
  | succ k ih =>
    intro b L σ
    match b with
    | 0 =>
      refine Kq_eq (by rw [x_putAt]) ?_
      exact Kq_ob (Kq_c rfl (kq_kind _ _ _ _)) (fun _ h455 => Kq_ite (Kq_c h455 (ih _ _ _)) (Kq_ite (Kq_c h455 (ih _ _ _)) (Kq_c h455 (ih _ _ _))))
    | 1 =>
      refine Kq_eq (by rw [x_putAt]) ?_
      exact Kq_ob (Kq_c rfl (kq_kind _ _ _ _)) (fun _ h456 => Kq_ite (Kq_ite (Kq_ob (Kq_c h456 (kq_kind _ _ _ _)) (fun _ h457 => Kq_ite (Kq_ite (Kq_ite (Kq_c h457 (ih _ _ _)) (Kq_c h457 (ih _ _ _))) (Kq_no _)) (Kq_c h457 (ih _ _ _)))) (Kq_c h456 (ih _ _ _))) (Kq_c h456 (ih _ _ _)))
    | 2 =>
      refine Kq_eq (by rw [x_putAt]) ?_
      exact Kq_ob (Kq_c rfl (kq_wrongKind _ _ _ _)) (fun _ h458 => Kq_so h458)
    | 3 =>
      refine Kq_eq (by rw [x_putAt]) ?_
      exact Kq_ob (Kq_c rfl (kq_intOf _ _ _ _ _)) (fun _ h459 => Kq_ite (Kq_ite (Kq_c h459 (ih _ _ _)) (Kq_ite (Kq_ite (Kq_c h459 (ih _ _ _)) (Kq_c h459 (ih _ _ _))) (Kq_c h459 (ih _ _ _)))) (Kq_no _))
    | 4 =>
      refine Kq_eq (by rw [x_putAt]) ?_
      exact Kq_ob (Kq_c rfl (kq_fail _ _ _ _)) (fun _ h460 => Kq_so h460)
    | 5 =>
      refine Kq_eq (by rw [x_putAt]) ?_
      exact Kq_ite (Kq_c rfl (ih _ _ _)) (Kq_c rfl (ih _ _ _))
    | 6 =>
      refine Kq_eq (by rw [x_putAt]) ?_
      exact Kq_ite (Kq_c rfl (ih _ _ _)) (Kq_ite (Kq_ite (Kq_c rfl (ih _ _ _)) (Kq_no _)) (Kq_no _))
    | 7 =>
      refine Kq_eq (by rw [x_putAt]) ?_
      exact Kq_c rfl (ih _ _ _)
    | 8 =>
      refine Kq_eq (by rw [x_putAt]) ?_
      exact Kq_ite (Kq_ite (Kq_c rfl (ih _ _ _)) (Kq_no _)) (Kq_no _)
    | 9 =>
      refine Kq_eq (by rw [x_putAt]) ?_
      exact Kq_ite (Kq_c rfl (ih _ _ _)) (Kq_c rfl (ih _ _ _))
    | 10 =>
      refine Kq_eq (by rw [x_putAt]) ?_
      exact Kq_c rfl (ih _ _ _)
    | 11 =>
      refine Kq_eq (by rw [x_putAt]) ?_
      exact Kq_ob (Kq_c rfl (kq_stringOf__51 _ _ _ _)) (fun _ h461 => Kq_so h461)
    | 12 =>
      refine Kq_eq (by rw [x_putAt]) ?_
      exact Kq_ob (Kq_c rfl (kq_putPlace _ _ _ _)) (fun _ h462 => Kq_so h462)
    | 13 =>
      refine Kq_eq (by rw [x_putAt]) ?_
      exact Kq_ob (Kq_c rfl (kq_isMap _ _ _ _)) (fun _ h463 => Kq_ite (Kq_ob (Kq_c h463 (kq_wrongKind _ _ _ _)) (fun _ h464 => Kq_so h464)) (Kq_c h463 (ih _ _ _)))
    | 14 =>
      refine Kq_eq (by rw [x_putAt]) ?_
      exact Kq_ob (Kq_c rfl (kq_pushOthers _ _ _ _)) (fun _ h465 => Kq_ite (Kq_c h465 (ih _ _ _)) (Kq_ob (Kq_c h465 (kq_pair _ _ _ _)) (fun _ h466 => Kq_ob (Kq_c h466 (kq_push _ _ _ _)) (fun _ h467 => Kq_c h467 (ih _ _ _)))))
    | 15 =>
      refine Kq_eq (by rw [x_putAt]) ?_
      exact Kq_ite (Kq_c rfl (ih _ _ _)) (Kq_c rfl (ih _ _ _))
    | 16 =>
      refine Kq_eq (by rw [x_putAt]) ?_
      exact Kq_ob (Kq_c rfl (kq_setOf _ _ _ _)) (fun _ h468 => Kq_c h468 (ih _ _ _))
    | 17 =>
      refine Kq_eq (by rw [x_putAt]) ?_
      exact Kq_so rfl
    | b + 18 =>
      refine Kq_eq (by rw [x_putAt]) (Kq_no _)
theorem kq_putImage : ∀ (k b : Nat) (L : Nat → Int32) (σ : MS), Kq (x_putImage k b L σ) (kq σ) := by
  intro k
  induction k with
  | zero => intro b L σ; exact Kq_no _
  | succ k ih =>
    intro b L σ
    match b with
    | 0 =>
      refine Kq_eq (by rw [x_putImage]) ?_
      exact Kq_ob (Kq_c rfl (kq_isMap _ _ _ _)) (fun _ h469 => Kq_ite (Kq_c h469 (ih _ _ _)) (Kq_ob (Kq_c h469 (kq_kind _ _ _ _)) (fun _ h470 => Kq_ite (Kq_c h470 (ih _ _ _)) (Kq_c h470 (ih _ _ _)))))
    | 1 =>
      refine Kq_eq (by rw [x_putImage]) ?_
      exact Kq_ob (Kq_c rfl (kq_wrongKind _ _ _ _)) (fun _ h471 => Kq_so h471)
    | 2 =>
      refine Kq_eq (by rw [x_putImage]) ?_
      exact Kq_ob (Kq_c rfl (kq_pushOthers _ _ _ _)) (fun _ h472 => Kq_c h472 (ih _ _ _))
    | 3 =>
      refine Kq_eq (by rw [x_putImage]) ?_
      exact Kq_ite (Kq_ite (Kq_c rfl (ih _ _ _)) (Kq_ite (Kq_ite (Kq_ob (Kq_c rfl (kq_pair _ _ _ _)) (fun _ h473 => Kq_ob (Kq_c h473 (kq_push _ _ _ _)) (fun _ h474 => Kq_c h474 (ih _ _ _)))) (Kq_no _)) (Kq_c rfl (ih _ _ _)))) (Kq_no _)
    | 4 =>
      refine Kq_eq (by rw [x_putImage]) ?_
      exact Kq_ite (Kq_c rfl (ih _ _ _)) (Kq_c rfl (ih _ _ _))
    | 5 =>
      refine Kq_eq (by rw [x_putImage]) ?_
      exact Kq_ob (Kq_c rfl (kq_setOf _ _ _ _)) (fun _ h475 => Kq_c h475 (ih _ _ _))
    | 6 =>
      refine Kq_eq (by rw [x_putImage]) ?_
      exact Kq_so rfl
    | b + 7 =>
      refine Kq_eq (by rw [x_putImage]) (Kq_no _)
theorem kq_putSlice : ∀ (k b : Nat) (L : Nat → Int32) (σ : MS), Kq (x_putSlice k b L σ) (kq σ) := by
  intro k
  induction k with
  | zero => intro b L σ; exact Kq_no _
  | succ k ih =>
    intro b L σ
    match b with
    | 0 =>
      refine Kq_eq (by rw [x_putSlice]) ?_
      exact Kq_ob (Kq_c rfl (kq_isSlice _ _ _ _)) (fun _ h476 => Kq_ite (Kq_so h476) (Kq_c h476 (ih _ _ _)))
    | 1 =>
      refine Kq_eq (by rw [x_putSlice]) ?_
      exact Kq_ob (Kq_c rfl (kq_kind _ _ _ _)) (fun _ h477 => Kq_ob (Kq_c h477 (kq_kind _ _ _ _)) (fun _ h478 => Kq_ite (Kq_c h478 (ih _ _ _)) (Kq_ob (Kq_c h478 (kq_wrongKind _ _ _ _)) (fun _ h479 => Kq_so h479))))
    | 2 =>
      refine Kq_eq (by rw [x_putSlice]) ?_
      exact Kq_ob (Kq_c rfl (kq_isSliceIn _ _ _ _)) (fun _ h480 => Kq_ite (Kq_so h480) (Kq_c h480 (ih _ _ _)))
    | 3 =>
      refine Kq_eq (by rw [x_putSlice]) ?_
      exact Kq_ite (Kq_ite (Kq_ite (Kq_ite (Kq_c rfl (ih _ _ _)) (Kq_c rfl (ih _ _ _))) (Kq_no _)) (Kq_no _)) (Kq_no _)
    | 4 =>
      refine Kq_eq (by rw [x_putSlice]) ?_
      exact Kq_ite (Kq_c rfl (ih _ _ _)) (Kq_ite (Kq_ite (Kq_c rfl (ih _ _ _)) (Kq_no _)) (Kq_no _))
    | 5 =>
      refine Kq_eq (by rw [x_putSlice]) ?_
      exact Kq_c rfl (ih _ _ _)
    | 6 =>
      refine Kq_eq (by rw [x_putSlice]) ?_
      exact Kq_c rfl (ih _ _ _)
    | 7 =>
      refine Kq_eq (by rw [x_putSlice]) ?_
      exact Kq_ite (Kq_c rfl (ih _ _ _)) (Kq_ite (Kq_ite (Kq_c rfl (ih _ _ _)) (Kq_no _)) (Kq_no _))
    | 8 =>
      refine Kq_eq (by rw [x_putSlice]) ?_
      exact Kq_c rfl (ih _ _ _)
    | 9 =>
      refine Kq_eq (by rw [x_putSlice]) ?_
      exact Kq_c rfl (ih _ _ _)
    | 10 =>
      refine Kq_eq (by rw [x_putSlice]) ?_
      exact Kq_ite (Kq_c rfl (ih _ _ _)) (Kq_ite (Kq_ite (Kq_c rfl (ih _ _ _)) (Kq_no _)) (Kq_no _))
    | 11 =>
      refine Kq_eq (by rw [x_putSlice]) ?_
      exact Kq_c rfl (ih _ _ _)
    | 12 =>
      refine Kq_eq (by rw [x_putSlice]) ?_
      exact Kq_ob (Kq_c rfl (kq_stringOf__51 _ _ _ _)) (fun _ h481 => Kq_so h481)
    | 13 =>
      refine Kq_eq (by rw [x_putSlice]) ?_
      exact Kq_c rfl (ih _ _ _)
    | 14 =>
      refine Kq_eq (by rw [x_putSlice]) ?_
      exact Kq_ite (Kq_c rfl (ih _ _ _)) (Kq_ite (Kq_ob (Kq_c rfl (kq_push _ _ _ _)) (fun _ h482 => Kq_c h482 (ih _ _ _))) (Kq_no _))
    | 15 =>
      refine Kq_eq (by rw [x_putSlice]) ?_
      exact Kq_c rfl (ih _ _ _)
    | 16 =>
      refine Kq_eq (by rw [x_putSlice]) ?_
      exact Kq_ite (Kq_c rfl (ih _ _ _)) (Kq_ite (Kq_ob (Kq_c rfl (kq_push _ _ _ _)) (fun _ h483 => Kq_c h483 (ih _ _ _))) (Kq_no _))
    | 17 =>
      refine Kq_eq (by rw [x_putSlice]) ?_
      exact Kq_c rfl (ih _ _ _)
    | 18 =>
      refine Kq_eq (by rw [x_putSlice]) ?_
      exact Kq_ite (Kq_c rfl (ih _ _ _)) (Kq_ite (Kq_ob (Kq_c rfl (kq_push _ _ _ _)) (fun _ h484 => Kq_c h484 (ih _ _ _))) (Kq_no _))
    | 19 =>
      refine Kq_eq (by rw [x_putSlice]) ?_
      exact Kq_ob (Kq_c rfl (kq_tupleOf _ _ _ _)) (fun _ h485 => Kq_so h485)
    | b + 20 =>
      refine Kq_eq (by rw [x_putSlice]) (Kq_no _)
theorem kq_assign : ∀ (k b : Nat) (L : Nat → Int32) (σ : MS), Kq (x_assign k b L σ) (kq σ) := by
  intro k
  induction k with
  | zero => intro b L σ; exact Kq_no _
  | succ k ih =>
    intro b L σ
    match b with
    | 0 =>
      refine Kq_eq (by rw [x_assign]) ?_
      exact Kq_ite (Kq_c rfl (ih _ _ _)) (Kq_so rfl)
    | 1 =>
      refine Kq_eq (by rw [x_assign]) ?_
      exact Kq_ob (Kq_c rfl (kq_valueOf _ _ _ _)) (fun _ h486 => Kq_ob (Kq_c h486 (kq_size _ _ _ _)) (fun _ h487 => Kq_ob (Kq_c h487 (kq_size _ _ _ _)) (fun _ h488 => Kq_ite (Kq_c h488 (ih _ _ _)) (Kq_ob (Kq_c h488 (kq_fail _ _ _ _)) (fun _ h489 => Kq_so h489)))))
    | 2 =>
      refine Kq_eq (by rw [x_assign]) ?_
      exact Kq_ob (Kq_c rfl (kq_size _ _ _ _)) (fun _ h490 => Kq_c h490 (ih _ _ _))
    | 3 =>
      refine Kq_eq (by rw [x_assign]) ?_
      exact Kq_ob (Kq_c rfl (kq_bindOne _ _ _ _)) (fun _ h491 => Kq_so h491)
    | b + 4 =>
      refine Kq_eq (by rw [x_assign]) (Kq_no _)
theorem kq_write : ∀ (k b : Nat) (L : Nat → Int32) (σ : MS), Kq (x_write k b L σ) (kq σ) := by
  intro k
  induction k with
  | zero => intro b L σ; exact Kq_no _
  | succ k ih =>
    intro b L σ
    match b with
    | 0 =>
      refine Kq_eq (by rw [x_write]) ?_
      exact Kq_ite (Kq_c rfl (ih _ _ _)) (Kq_so rfl)
    | 1 =>
      refine Kq_eq (by rw [x_write]) ?_
      exact Kq_ob (Kq_c rfl (kq_readParts _ _ _ _)) (fun _ h492 => Kq_ob (Kq_c h492 (kq_keysIn _ _ _ _)) (fun _ h493 => Kq_ite (Kq_ob (Kq_c h493 (kq_push _ _ _ _)) (fun _ h494 => Kq_c h494 (ih _ _ _))) (Kq_no _)))
    | 2 =>
      refine Kq_eq (by rw [x_write]) ?_
      exact Kq_ite (Kq_ite (Kq_c rfl (ih _ _ _)) (Kq_ite (Kq_ite (Kq_ob (Kq_c rfl (kq_keysOf _ _ _ _)) (fun _ h495 => Kq_ob (Kq_c h495 (kq_sweep _ _ _ _)) (fun _ h496 => Kq_ite (Kq_ite (Kq_ite (Kq_ite (Kq_ite (Kq_ob (Kq_c h496 (kq_putAt _ _ _ _)) (fun _ h497 => Kq_c h497 (ih _ _ _))) (Kq_no _)) (Kq_no _)) (Kq_c h496 (ih _ _ _))) (Kq_no _)) (Kq_no _)))) (Kq_no _)) (Kq_c rfl (ih _ _ _)))) (Kq_no _)
    | 3 =>
      refine Kq_eq (by rw [x_write]) ?_
      exact Kq_ite (Kq_ite (Kq_ite (Kq_ite (Kq_ob (Kq_c rfl (kq_putImage _ _ _ _)) (fun _ h498 => Kq_c h498 (ih _ _ _))) (Kq_no _)) (Kq_no _)) (Kq_c rfl (ih _ _ _))) (Kq_no _)
    | 4 =>
      refine Kq_eq (by rw [x_write]) ?_
      exact Kq_ite (Kq_ite (Kq_ite (Kq_ob (Kq_c rfl (kq_putSlice _ _ _ _)) (fun _ h499 => Kq_c h499 (ih _ _ _))) (Kq_no _)) (Kq_no _)) (Kq_no _)
    | 5 =>
      refine Kq_eq (by rw [x_write]) ?_
      exact Kq_ob (Kq_c rfl (kq_answer _ _ _ _)) (fun _ h500 => Kq_ite (Kq_c h500 (ih _ _ _)) (Kq_no _))
    | 6 =>
      refine Kq_eq (by rw [x_write]) ?_
      exact Kq_ite (Kq_c rfl (ih _ _ _)) (Kq_no _)
    | 7 =>
      refine Kq_eq (by rw [x_write]) ?_
      exact Kq_c rfl (ih _ _ _)
    | 8 =>
      refine Kq_eq (by rw [x_write]) ?_
      exact Kq_ite (Kq_ite (Kq_ob (Kq_c rfl (kq_assign _ _ _ _)) (fun _ h501 => Kq_c h501 (ih _ _ _))) (Kq_no _)) (Kq_c rfl (ih _ _ _))
    | 9 =>
      refine Kq_eq (by rw [x_write]) ?_
      exact Kq_so rfl
    | b + 10 =>
      refine Kq_eq (by rw [x_write]) (Kq_no _)
theorem kq_dropIter : ∀ (k b : Nat) (L : Nat → Int32) (σ : MS), Kq (x_dropIter k b L σ) (kq σ) := by
  intro k
  induction k with
  | zero => intro b L σ; exact Kq_no _
  | succ k ih =>
    intro b L σ
    match b with
    | 0 =>
      refine Kq_eq (by rw [x_dropIter]) ?_
      exact Kq_ite (Kq_ite (Kq_c rfl (ih _ _ _)) (Kq_no _)) (Kq_no _)
    | 1 =>
      refine Kq_eq (by rw [x_dropIter]) ?_
      exact Kq_ite (Kq_ite (Kq_ob (Kq_c rfl (kq_size _ _ _ _)) (fun _ h502 => Kq_so h502)) (Kq_no _)) (Kq_no _)
    | b + 2 =>
      refine Kq_eq (by rw [x_dropIter]) (Kq_no _)
theorem kq_closeFor : ∀ (k b : Nat) (L : Nat → Int32) (σ : MS), Kq (x_closeFor k b L σ) (kq σ) := by
  intro k
  induction k with
  | zero => intro b L σ; exact Kq_no _
  | succ k ih =>
    intro b L σ
    match b with
    | 0 =>
      refine Kq_eq (by rw [x_closeFor]) ?_
      exact Kq_ite (Kq_c rfl (ih _ _ _)) (Kq_no _)
    | 1 =>
      refine Kq_eq (by rw [x_closeFor]) ?_
      exact Kq_ite (Kq_ite (Kq_ite (Kq_c rfl (ih _ _ _)) (Kq_ob (Kq_c rfl (kq_dropIter _ _ _ _)) (fun _ h503 => Kq_c h503 (ih _ _ _)))) (Kq_no _)) (Kq_no _)
    | 2 =>
      refine Kq_eq (by rw [x_closeFor]) ?_
      exact Kq_ite (Kq_ite (Kq_c rfl (ih _ _ _)) (Kq_no _)) (Kq_no _)
    | 3 =>
      refine Kq_eq (by rw [x_closeFor]) ?_
      exact Kq_ite (Kq_ite (Kq_c rfl (ih _ _ _)) (Kq_no _)) (Kq_no _)
    | 4 =>
      refine Kq_eq (by rw [x_closeFor]) ?_
      exact Kq_ite (Kq_c rfl (ih _ _ _)) (Kq_ite (Kq_c rfl (ih _ _ _)) (Kq_no _))
    | 5 =>
      refine Kq_eq (by rw [x_closeFor]) ?_
      exact Kq_ite (Kq_c rfl (ih _ _ _)) (Kq_ob (Kq_c rfl (kq_valueOf _ _ _ _)) (fun _ h504 => Kq_ob (Kq_c h504 (kq_size _ _ _ _)) (fun _ h505 => Kq_c h505 (ih _ _ _))))
    | 6 =>
      refine Kq_eq (by rw [x_closeFor]) ?_
      exact Kq_ob (Kq_c rfl (kq_bindOne _ _ _ _)) (fun _ h506 => Kq_ite (Kq_c h506 (ih _ _ _)) (Kq_no _))
    | 7 =>
      refine Kq_eq (by rw [x_closeFor]) ?_
      exact Kq_ite (Kq_c rfl (ih _ _ _)) (Kq_no _)
    | 8 =>
      refine Kq_eq (by rw [x_closeFor]) ?_
      exact Kq_so rfl
    | b + 9 =>
      refine Kq_eq (by rw [x_closeFor]) (Kq_no _)
theorem kq_writeWorked : ∀ (k b : Nat) (L : Nat → Int32) (σ : MS), Kq (x_writeWorked k b L σ) (kq σ) := by
  intro k
  induction k with
  | zero => intro b L σ; exact Kq_no _
  | succ k ih =>
    intro b L σ
    match b with
    | 0 =>
      refine Kq_eq (by rw [x_writeWorked]) ?_
      exact Kq_ob (Kq_c rfl (kq_workParts _ _ _ _)) (fun _ h507 => Kq_ob (Kq_c h507 (kq_write _ _ _ _)) (fun _ h508 => Kq_so h508))
    | b + 1 =>
      refine Kq_eq (by rw [x_writeWorked]) (Kq_no _)
theorem kq_giveBack : ∀ (k b : Nat) (L : Nat → Int32) (σ : MS), Kq (x_giveBack k b L σ) (kq σ) := by
  intro k
  induction k with
  | zero => intro b L σ; exact Kq_no _
  | succ k ih =>
    intro b L σ
    match b with
    | 0 =>
      refine Kq_eq (by rw [x_giveBack]) ?_
      exact Kq_ite (Kq_ite (Kq_ite (Kq_c rfl (ih _ _ _)) (Kq_no _)) (Kq_no _)) (Kq_no _)
    | 1 =>
      refine Kq_eq (by rw [x_giveBack]) ?_
      exact Kq_ite (Kq_ite (Kq_ite (Kq_c rfl (ih _ _ _)) (Kq_ob (Kq_c rfl (kq_closeFor _ _ _ _)) (fun _ h509 => Kq_c h509 (ih _ _ _)))) (Kq_no _)) (Kq_no _)
    | 2 =>
      refine Kq_eq (by rw [x_giveBack]) ?_
      exact Kq_c rfl (ih _ _ _)
    | 3 =>
      refine Kq_eq (by rw [x_giveBack]) ?_
      exact Kq_ite (Kq_ite (Kq_c rfl (ih _ _ _)) (Kq_ite (Kq_ob (Kq_c rfl (kq_push _ _ _ _)) (fun _ h510 => Kq_c h510 (ih _ _ _))) (Kq_no _))) (Kq_no _)
    | 4 =>
      refine Kq_eq (by rw [x_giveBack]) ?_
      exact Kq_ob (Kq_c rfl (kq_push _ _ _ _)) (fun _ h511 => Kq_c h511 (ih _ _ _))
    | 5 =>
      refine Kq_eq (by rw [x_giveBack]) ?_
      exact Kq_ite (Kq_ite (Kq_c rfl (ih _ _ _)) (Kq_ite (Kq_ite (Kq_c rfl (ih _ _ _)) (Kq_ite (Kq_ob (Kq_c rfl (kq_size _ _ _ _)) (fun _ h512 => Kq_c h512 (ih _ _ _))) (Kq_no _))) (Kq_no _))) (Kq_no _)
    | 6 =>
      refine Kq_eq (by rw [x_giveBack]) ?_
      exact Kq_c rfl (ih _ _ _)
    | 7 =>
      refine Kq_eq (by rw [x_giveBack]) ?_
      exact Kq_c rfl (ih _ _ _)
    | 8 =>
      refine Kq_eq (by rw [x_giveBack]) ?_
      exact Kq_c rfl (ih _ _ _)
    | 9 =>
      refine Kq_eq (by rw [x_giveBack]) ?_
      exact Kq_ite (Kq_ite (Kq_c rfl (ih _ _ _)) (Kq_no _)) (Kq_no _)
    | 10 =>
      refine Kq_eq (by rw [x_giveBack]) ?_
      exact Kq_ite (Kq_c rfl (ih _ _ _)) (Kq_no _)
    | 11 =>
      refine Kq_eq (by rw [x_giveBack]) ?_
      exact Kq_ite (Kq_c rfl (ih _ _ _)) (Kq_ite (Kq_ite (Kq_ite (Kq_c rfl (ih _ _ _)) (Kq_ob (Kq_c rfl (kq_writeWorked _ _ _ _)) (fun _ h513 => Kq_c h513 (ih _ _ _)))) (Kq_no _)) (Kq_c rfl (ih _ _ _)))
    | 12 =>
      refine Kq_eq (by rw [x_giveBack]) ?_
      exact Kq_ite (Kq_c rfl (ih _ _ _)) (Kq_no _)
    | 13 =>
      refine Kq_eq (by rw [x_giveBack]) ?_
      exact Kq_ite (Kq_ite (Kq_ite (Kq_c rfl (ih _ _ _)) (Kq_ite (Kq_ite (Kq_ob (Kq_c rfl (kq_writeWorked _ _ _ _)) (fun _ h514 => Kq_c h514 (ih _ _ _))) (Kq_no _)) (Kq_no _))) (Kq_no _)) (Kq_c rfl (ih _ _ _))
    | 14 =>
      refine Kq_eq (by rw [x_giveBack]) ?_
      exact Kq_c rfl (ih _ _ _)
    | 15 =>
      refine Kq_eq (by rw [x_giveBack]) ?_
      exact Kq_ite (Kq_c rfl (ih _ _ _)) (Kq_c rfl (ih _ _ _))
    | 16 =>
      refine Kq_eq (by rw [x_giveBack]) ?_
      exact Kq_c rfl (ih _ _ _)
    | 17 =>
      refine Kq_eq (by rw [x_giveBack]) ?_
      exact Kq_so rfl
    | b + 18 =>
      refine Kq_eq (by rw [x_giveBack]) (Kq_no _)
theorem kq_iterOf : ∀ (k b : Nat) (L : Nat → Int32) (σ : MS), Kq (x_iterOf k b L σ) (kq σ) := by
  intro k
  induction k with
  | zero => intro b L σ; exact Kq_no _
  | succ k ih =>
    intro b L σ
    match b with
    | 0 =>
      refine Kq_eq (by rw [x_iterOf]) ?_
      exact Kq_ite (Kq_c rfl (ih _ _ _)) (Kq_no _)
    | 1 =>
      refine Kq_eq (by rw [x_iterOf]) ?_
      exact Kq_ite (Kq_c rfl (ih _ _ _)) (Kq_ite (Kq_c rfl (ih _ _ _)) (Kq_no _))
    | 2 =>
      refine Kq_eq (by rw [x_iterOf]) ?_
      exact Kq_so rfl
    | b + 3 =>
      refine Kq_eq (by rw [x_iterOf]) (Kq_no _)
theorem kq_openFor : ∀ (k b : Nat) (L : Nat → Int32) (σ : MS), Kq (x_openFor k b L σ) (kq σ) := by
  intro k
  induction k with
  | zero => intro b L σ; exact Kq_no _
  | succ k ih =>
    intro b L σ
    match b with
    | 0 =>
      refine Kq_eq (by rw [x_openFor]) ?_
      exact Kq_ite (Kq_ob (Kq_c rfl (kq_eval _ _ _ _)) (fun _ h515 => Kq_ite (Kq_c h515 (ih _ _ _)) (Kq_so h515))) (Kq_no _)
    | 1 =>
      refine Kq_eq (by rw [x_openFor]) ?_
      exact Kq_ob (Kq_c rfl (kq_pop _ _ _ _)) (fun _ h516 => Kq_ob (Kq_c h516 (kq_isRow _ _ _ _)) (fun _ h517 => Kq_ite (Kq_ob (Kq_c h517 (kq_fail _ _ _ _)) (fun _ h518 => Kq_so h518)) (Kq_c h517 (ih _ _ _))))
    | 2 =>
      refine Kq_eq (by rw [x_openFor]) ?_
      exact Kq_ob (Kq_c rfl (kq_size _ _ _ _)) (fun _ h519 => Kq_ite (Kq_c h519 (ih _ _ _)) (Kq_ob (Kq_c h519 (kq_fail _ _ _ _)) (fun _ h520 => Kq_so h520)))
    | 3 =>
      refine Kq_eq (by rw [x_openFor]) ?_
      exact Kq_ob (Kq_c rfl (kq_size _ _ _ _)) (fun _ h521 => Kq_c h521 (ih _ _ _))
    | 4 =>
      refine Kq_eq (by rw [x_openFor]) ?_
      exact Kq_ite (Kq_ite (Kq_c rfl (ih _ _ _)) (Kq_no _)) (Kq_no _)
    | 5 =>
      refine Kq_eq (by rw [x_openFor]) ?_
      exact Kq_ite (Kq_ite (Kq_c rfl (ih _ _ _)) (Kq_no _)) (Kq_no _)
    | 6 =>
      refine Kq_eq (by rw [x_openFor]) ?_
      exact Kq_ite (Kq_ite (Kq_so rfl) (Kq_no _)) (Kq_no _)
    | b + 7 =>
      refine Kq_eq (by rw [x_openFor]) (Kq_no _)
theorem kq_stepFor : ∀ (k b : Nat) (L : Nat → Int32) (σ : MS), Kq (x_stepFor k b L σ) (kq σ) := by
  intro k
  induction k with
  | zero => intro b L σ; exact Kq_no _
  | succ k ih =>
    intro b L σ
    match b with
    | 0 =>
      refine Kq_eq (by rw [x_stepFor]) ?_
      exact Kq_ite (Kq_ite (Kq_ite (Kq_ite (Kq_ite (Kq_so rfl) (Kq_c rfl (ih _ _ _))) (Kq_no _)) (Kq_no _)) (Kq_no _)) (Kq_no _)
    | 1 =>
      refine Kq_eq (by rw [x_stepFor]) ?_
      exact Kq_ite (Kq_c rfl (ih _ _ _)) (Kq_no _)
    | 2 =>
      refine Kq_eq (by rw [x_stepFor]) ?_
      exact Kq_ob (Kq_c rfl (kq_worked _ _ _ _)) (fun _ h522 => Kq_ite (Kq_c h522 (ih _ _ _)) (Kq_so h522))
    | 3 =>
      refine Kq_eq (by rw [x_stepFor]) ?_
      exact Kq_ob (Kq_c rfl (kq_memberAt _ _ _ _)) (fun _ h523 => Kq_ite (Kq_ite (Kq_ite (Kq_ob (Kq_c h523 (kq_assign _ _ _ _)) (fun _ h524 => Kq_ite (Kq_c h524 (ih _ _ _)) (Kq_c h524 (ih _ _ _)))) (Kq_no _)) (Kq_c h523 (ih _ _ _))) (Kq_no _))
    | 4 =>
      refine Kq_eq (by rw [x_stepFor]) ?_
      exact Kq_c rfl (ih _ _ _)
    | 5 =>
      refine Kq_eq (by rw [x_stepFor]) ?_
      exact Kq_ite (Kq_so rfl) (Kq_no _)
    | 6 =>
      refine Kq_eq (by rw [x_stepFor]) ?_
      exact Kq_ite (Kq_c rfl (ih _ _ _)) (Kq_no _)
    | 7 =>
      refine Kq_eq (by rw [x_stepFor]) ?_
      exact Kq_ite (Kq_c rfl (ih _ _ _)) (Kq_ite (Kq_c rfl (ih _ _ _)) (Kq_no _))
    | 8 =>
      refine Kq_eq (by rw [x_stepFor]) ?_
      exact Kq_ob (Kq_c rfl (kq_kind _ _ _ _)) (fun _ h525 => Kq_ite (Kq_ite (Kq_ite (Kq_c h525 (ih _ _ _)) (Kq_c h525 (ih _ _ _))) (Kq_no _)) (Kq_c h525 (ih _ _ _)))
    | 9 =>
      refine Kq_eq (by rw [x_stepFor]) ?_
      exact Kq_ob (Kq_c rfl (kq_fail _ _ _ _)) (fun _ h526 => Kq_so h526)
    | 10 =>
      refine Kq_eq (by rw [x_stepFor]) ?_
      exact Kq_ite (Kq_c rfl (ih _ _ _)) (Kq_no _)
    | 11 =>
      refine Kq_eq (by rw [x_stepFor]) ?_
      exact Kq_ite (Kq_c rfl (ih _ _ _)) (Kq_ite (Kq_ite (Kq_c rfl (ih _ _ _)) (Kq_ite (Kq_c rfl (ih _ _ _)) (Kq_no _))) (Kq_no _))
    | 12 =>
      refine Kq_eq (by rw [x_stepFor]) ?_
      exact Kq_c rfl (ih _ _ _)
    | 13 =>
      refine Kq_eq (by rw [x_stepFor]) ?_
      exact Kq_ob (Kq_c rfl (kq_assign _ _ _ _)) (fun _ h527 => Kq_ite (Kq_c h527 (ih _ _ _)) (Kq_no _))
    | 14 =>
      refine Kq_eq (by rw [x_stepFor]) ?_
      exact Kq_ite (Kq_c rfl (ih _ _ _)) (Kq_c rfl (ih _ _ _))
    | 15 =>
      refine Kq_eq (by rw [x_stepFor]) ?_
      exact Kq_c rfl (ih _ _ _)
    | 16 =>
      refine Kq_eq (by rw [x_stepFor]) ?_
      exact Kq_ite (Kq_so rfl) (Kq_no _)
    | b + 17 =>
      refine Kq_eq (by rw [x_stepFor]) (Kq_no _)
theorem kq_nextTurn : ∀ (k b : Nat) (L : Nat → Int32) (σ : MS), Kq (x_nextTurn k b L σ) (kq σ) := by
  intro k
  induction k with
  | zero => intro b L σ; exact Kq_no _
  | succ k ih =>
    intro b L σ
    match b with
    | 0 =>
      refine Kq_eq (by rw [x_nextTurn]) ?_
      exact Kq_c rfl (ih _ _ _)
    | 1 =>
      refine Kq_eq (by rw [x_nextTurn]) ?_
      exact Kq_ite (Kq_ob (Kq_c rfl (kq_sweep _ _ _ _)) (fun _ h528 => Kq_ite (Kq_ite (Kq_c h528 (ih _ _ _)) (Kq_ob (Kq_c h528 (kq_iterOf _ _ _ _)) (fun _ h529 => Kq_ob (Kq_c h529 (kq_openFor _ _ _ _)) (fun _ h530 => Kq_ite (Kq_c h530 (ih _ _ _)) (Kq_so h530))))) (Kq_no _))) (Kq_c rfl (ih _ _ _))
    | 2 =>
      refine Kq_eq (by rw [x_nextTurn]) ?_
      exact Kq_ite (Kq_so rfl) (Kq_c rfl (ih _ _ _))
    | 3 =>
      refine Kq_eq (by rw [x_nextTurn]) ?_
      exact Kq_ob (Kq_c rfl (kq_iterOf _ _ _ _)) (fun _ h531 => Kq_ob (Kq_c h531 (kq_stepFor _ _ _ _)) (fun _ h532 => Kq_ite (Kq_ite (Kq_ob (Kq_c h532 (kq_dropIter _ _ _ _)) (fun _ h533 => Kq_c h533 (ih _ _ _))) (Kq_c h532 (ih _ _ _))) (Kq_c h532 (ih _ _ _))))
    | 4 =>
      refine Kq_eq (by rw [x_nextTurn]) ?_
      exact Kq_ite (Kq_c rfl (ih _ _ _)) (Kq_ite (Kq_ite (Kq_so rfl) (Kq_c rfl (ih _ _ _))) (Kq_no _))
    | 5 =>
      refine Kq_eq (by rw [x_nextTurn]) ?_
      exact Kq_c rfl (ih _ _ _)
    | 6 =>
      refine Kq_eq (by rw [x_nextTurn]) ?_
      exact Kq_so rfl
    | b + 7 =>
      refine Kq_eq (by rw [x_nextTurn]) (Kq_no _)
theorem kq_holds (k b : Nat) (L : Nat → Int32) (σ : MS) : Kq (x_holds k b L σ) (kq σ) := kq_GV k 1300 8 b L σ
theorem kq_seek : ∀ (k b : Nat) (L : Nat → Int32) (σ : MS), Kq (x_seek k b L σ) (kq σ) := by
  intro k
  induction k with
  | zero => intro b L σ; exact Kq_no _
  | succ k ih =>
    intro b L σ
    match b with
    | 0 =>
      refine Kq_eq (by rw [x_seek]) ?_
      exact Kq_ite (Kq_ite (Kq_ob (Kq_c rfl (kq_nextTurn _ _ _ _)) (fun _ h534 => Kq_c h534 (ih _ _ _))) (Kq_no _)) (Kq_no _)
    | 1 =>
      refine Kq_eq (by rw [x_seek]) ?_
      exact Kq_ite (Kq_c rfl (ih _ _ _)) (Kq_ite (Kq_ite (Kq_ite (Kq_c rfl (ih _ _ _)) (Kq_ite (Kq_ite (Kq_c rfl (ih _ _ _)) (Kq_c rfl (ih _ _ _))) (Kq_no _))) (Kq_no _)) (Kq_c rfl (ih _ _ _)))
    | 2 =>
      refine Kq_eq (by rw [x_seek]) ?_
      exact Kq_ite (Kq_ite (Kq_c rfl (ih _ _ _)) (Kq_ite (Kq_ob (Kq_c rfl (kq_holds _ _ _ _)) (fun _ h535 => Kq_ite (Kq_c h535 (ih _ _ _)) (Kq_c h535 (ih _ _ _)))) (Kq_no _))) (Kq_no _)
    | 3 =>
      refine Kq_eq (by rw [x_seek]) ?_
      exact Kq_c rfl (ih _ _ _)
    | 4 =>
      refine Kq_eq (by rw [x_seek]) ?_
      exact Kq_c rfl (ih _ _ _)
    | 5 =>
      refine Kq_eq (by rw [x_seek]) ?_
      exact Kq_ite (Kq_c rfl (ih _ _ _)) (Kq_ite (Kq_ite (Kq_c rfl (ih _ _ _)) (Kq_c rfl (ih _ _ _))) (Kq_no _))
    | 6 =>
      refine Kq_eq (by rw [x_seek]) ?_
      exact Kq_ite (Kq_ob (Kq_c rfl (kq_nextTurn _ _ _ _)) (fun _ h536 => Kq_ite (Kq_c h536 (ih _ _ _)) (Kq_c h536 (ih _ _ _)))) (Kq_c rfl (ih _ _ _))
    | 7 =>
      refine Kq_eq (by rw [x_seek]) ?_
      exact Kq_c rfl (ih _ _ _)
    | 8 =>
      refine Kq_eq (by rw [x_seek]) ?_
      exact Kq_c rfl (ih _ _ _)
    | 9 =>
      refine Kq_eq (by rw [x_seek]) ?_
      exact Kq_ite (Kq_c rfl (ih _ _ _)) (Kq_so rfl)
    | 10 =>
      refine Kq_eq (by rw [x_seek]) ?_
      exact Kq_ite (Kq_c rfl (ih _ _ _)) (Kq_ite (Kq_ite (Kq_c rfl (ih _ _ _)) (Kq_no _)) (Kq_no _))
    | 11 =>
      refine Kq_eq (by rw [x_seek]) ?_
      exact Kq_so rfl
    | 12 =>
      refine Kq_eq (by rw [x_seek]) ?_
      exact Kq_ob (Kq_c rfl (kq_closeFor _ _ _ _)) (fun _ h537 => Kq_so h537)
    | b + 13 =>
      refine Kq_eq (by rw [x_seek]) (Kq_no _)
theorem kq_done : ∀ (k b : Nat) (L : Nat → Int32) (σ : MS), Kq (x_done k b L σ) (kq σ) := by
  intro k
  induction k with
  | zero => intro b L σ; exact Kq_no _
  | succ k ih =>
    intro b L σ
    match b with
    | 0 =>
      refine Kq_eq (by rw [x_done]) ?_
      exact Kq_ite (Kq_c rfl (ih _ _ _)) (Kq_so rfl)
    | 1 =>
      refine Kq_eq (by rw [x_done]) ?_
      exact Kq_ite (Kq_ite (Kq_ite (Kq_c rfl (ih _ _ _)) (Kq_ob (Kq_c rfl (kq_giveBack _ _ _ _)) (fun _ h538 => Kq_so h538))) (Kq_no _)) (Kq_c rfl (ih _ _ _))
    | 2 =>
      refine Kq_eq (by rw [x_done]) ?_
      exact Kq_c rfl (ih _ _ _)
    | 3 =>
      refine Kq_eq (by rw [x_done]) ?_
      exact Kq_so rfl
    | 4 =>
      refine Kq_eq (by rw [x_done]) ?_
      exact Kq_ite (Kq_ite (Kq_ite (Kq_c rfl (ih _ _ _)) (Kq_no _)) (Kq_c rfl (ih _ _ _))) (Kq_no _)
    | 5 =>
      refine Kq_eq (by rw [x_done]) ?_
      exact Kq_so rfl
    | 6 =>
      refine Kq_eq (by rw [x_done]) ?_
      exact Kq_ite (Kq_ite (Kq_ob (Kq_c rfl (kq_seek _ _ _ _)) (fun _ h539 => Kq_c h539 (ih _ _ _))) (Kq_c rfl (ih _ _ _))) (Kq_no _)
    | 7 =>
      refine Kq_eq (by rw [x_done]) ?_
      exact Kq_c rfl (ih _ _ _)
    | 8 =>
      refine Kq_eq (by rw [x_done]) ?_
      exact Kq_so rfl
    | b + 9 =>
      refine Kq_eq (by rw [x_done]) (Kq_no _)
theorem kq_finished : ∀ (k b : Nat) (L : Nat → Int32) (σ : MS), Kq (x_finished k b L σ) (kq σ) := by
  intro k
  induction k with
  | zero => intro b L σ; exact Kq_no _
  | succ k ih =>
    intro b L σ
    match b with
    | 0 =>
      refine Kq_eq (by rw [x_finished]) ?_
      exact Kq_c rfl (ih _ _ _)
    | 1 =>
      refine Kq_eq (by rw [x_finished]) ?_
      exact Kq_ite (Kq_c rfl (ih _ _ _)) (Kq_ob (Kq_c rfl (kq_done _ _ _ _)) (fun _ h540 => Kq_ite (Kq_c h540 (ih _ _ _)) (Kq_c h540 (ih _ _ _))))
    | 2 =>
      refine Kq_eq (by rw [x_finished]) ?_
      exact Kq_c rfl (ih _ _ _)
    | 3 =>
      refine Kq_eq (by rw [x_finished]) ?_
      exact Kq_ite (Kq_c rfl (ih _ _ _)) (Kq_ite (Kq_ite (Kq_c rfl (ih _ _ _)) (Kq_ite (Kq_ite (Kq_c rfl (ih _ _ _)) (Kq_no _)) (Kq_no _))) (Kq_no _))
    | 4 =>
      refine Kq_eq (by rw [x_finished]) ?_
      exact Kq_c rfl (ih _ _ _)
    | 5 =>
      refine Kq_eq (by rw [x_finished]) ?_
      exact Kq_ite (Kq_c rfl (ih _ _ _)) (Kq_ite (Kq_ite (Kq_c rfl (ih _ _ _)) (Kq_no _)) (Kq_no _))
    | 6 =>
      refine Kq_eq (by rw [x_finished]) ?_
      exact Kq_c rfl (ih _ _ _)
    | 7 =>
      refine Kq_eq (by rw [x_finished]) ?_
      exact Kq_so rfl
    | b + 8 =>
      refine Kq_eq (by rw [x_finished]) (Kq_no _)
theorem kq_goOnBehind : ∀ (k b : Nat) (L : Nat → Int32) (σ : MS), Kq (x_goOnBehind k b L σ) (kq σ) := by
  intro k
  induction k with
  | zero => intro b L σ; exact Kq_no _
  | succ k ih =>
    intro b L σ
    match b with
    | 0 =>
      refine Kq_eq (by rw [x_goOnBehind]) ?_
      exact Kq_ite (Kq_so rfl) (Kq_c rfl (ih _ _ _))
    | 1 =>
      refine Kq_eq (by rw [x_goOnBehind]) ?_
      exact Kq_ite (Kq_ite (Kq_c rfl (ih _ _ _)) (Kq_ite (Kq_ite (Kq_c rfl (ih _ _ _)) (Kq_no _)) (Kq_no _))) (Kq_no _)
    | 2 =>
      refine Kq_eq (by rw [x_goOnBehind]) ?_
      exact Kq_ite (Kq_ite (Kq_ob (Kq_c rfl (kq_finished _ _ _ _)) (fun _ h541 => Kq_c h541 (ih _ _ _))) (Kq_no _)) (Kq_no _)
    | 3 =>
      refine Kq_eq (by rw [x_goOnBehind]) ?_
      exact Kq_so rfl
    | b + 4 =>
      refine Kq_eq (by rw [x_goOnBehind]) (Kq_no _)
theorem kq_pass : ∀ (k b : Nat) (L : Nat → Int32) (σ : MS), Kq (x_pass k b L σ) (kq σ) := by
  intro k
  induction k with
  | zero => intro b L σ; exact Kq_no _
  | succ k ih =>
    intro b L σ
    match b with
    | 0 =>
      refine Kq_eq (by rw [x_pass]) ?_
      exact Kq_ite (Kq_ob (Kq_c rfl (kq_goOnBehind _ _ _ _)) (fun _ h542 => Kq_c h542 (ih _ _ _))) (Kq_c rfl (ih _ _ _))
    | 1 =>
      refine Kq_eq (by rw [x_pass]) ?_
      exact Kq_so rfl
    | b + 2 =>
      refine Kq_eq (by rw [x_pass]) (Kq_no _)
theorem kq_assignTo : ∀ (k b : Nat) (L : Nat → Int32) (σ : MS), Kq (x_assignTo k b L σ) (kq σ) := by
  intro k
  induction k with
  | zero => intro b L σ; exact Kq_no _
  | succ k ih =>
    intro b L σ
    match b with
    | 0 =>
      refine Kq_eq (by rw [x_assignTo]) ?_
      exact Kq_ite (Kq_ob (Kq_c rfl (kq_workParts _ _ _ _)) (fun _ h543 => Kq_ite (Kq_ite (Kq_ob (Kq_c h543 (kq_eval _ _ _ _)) (fun _ h544 => Kq_c h544 (ih _ _ _))) (Kq_no _)) (Kq_c h543 (ih _ _ _)))) (Kq_no _)
    | 1 =>
      refine Kq_eq (by rw [x_assignTo]) ?_
      exact Kq_ite (Kq_c rfl (ih _ _ _)) (Kq_so rfl)
    | 2 =>
      refine Kq_eq (by rw [x_assignTo]) ?_
      exact Kq_ite (Kq_ite (Kq_ob (Kq_c rfl (kq_readParts _ _ _ _)) (fun _ h545 => Kq_ite (Kq_ob (Kq_c h545 (kq_sweep _ _ _ _)) (fun _ h546 => Kq_ite (Kq_ite (Kq_ite (Kq_ob (Kq_c h546 (kq_operate _ _ _ _)) (fun _ h547 => Kq_ob (Kq_c h547 (kq_answer _ _ _ _)) (fun _ h548 => Kq_ite (Kq_c h548 (ih _ _ _)) (Kq_no _)))) (Kq_no _)) (Kq_no _)) (Kq_no _))) (Kq_c h545 (ih _ _ _)))) (Kq_c rfl (ih _ _ _))) (Kq_no _)
    | 3 =>
      refine Kq_eq (by rw [x_assignTo]) ?_
      exact Kq_c rfl (ih _ _ _)
    | 4 =>
      refine Kq_eq (by rw [x_assignTo]) ?_
      exact Kq_ob (Kq_c rfl (kq_write _ _ _ _)) (fun _ h549 => Kq_ob (Kq_c h549 (kq_pass _ _ _ _)) (fun _ h550 => Kq_so h550))
    | b + 5 =>
      refine Kq_eq (by rw [x_assignTo]) (Kq_no _)
theorem kq_partsTo : ∀ (k b : Nat) (L : Nat → Int32) (σ : MS), Kq (x_partsTo k b L σ) (kq σ) := by
  intro k
  induction k with
  | zero => intro b L σ; exact Kq_no _
  | succ k ih =>
    intro b L σ
    match b with
    | 0 =>
      refine Kq_eq (by rw [x_partsTo]) ?_
      exact Kq_ite (Kq_c rfl (ih _ _ _)) (Kq_no _)
    | 1 =>
      refine Kq_eq (by rw [x_partsTo]) ?_
      exact Kq_ite (Kq_c rfl (ih _ _ _)) (Kq_ite (Kq_ite (Kq_ite (Kq_c rfl (ih _ _ _)) (Kq_ob (Kq_c rfl (kq_workParts _ _ _ _)) (fun _ h551 => Kq_c h551 (ih _ _ _)))) (Kq_no _)) (Kq_c rfl (ih _ _ _)))
    | 2 =>
      refine Kq_eq (by rw [x_partsTo]) ?_
      exact Kq_ite (Kq_c rfl (ih _ _ _)) (Kq_no _)
    | 3 =>
      refine Kq_eq (by rw [x_partsTo]) ?_
      exact Kq_ite (Kq_ite (Kq_ob (Kq_c rfl (kq_eval _ _ _ _)) (fun _ h552 => Kq_c h552 (ih _ _ _))) (Kq_no _)) (Kq_c rfl (ih _ _ _))
    | 4 =>
      refine Kq_eq (by rw [x_partsTo]) ?_
      exact Kq_ite (Kq_c rfl (ih _ _ _)) (Kq_so rfl)
    | 5 =>
      refine Kq_eq (by rw [x_partsTo]) ?_
      exact Kq_ite (Kq_ob (Kq_c rfl (kq_kind _ _ _ _)) (fun _ h553 => Kq_ite (Kq_c h553 (ih _ _ _)) (Kq_ob (Kq_c h553 (kq_fail _ _ _ _)) (fun _ h554 => Kq_so h554)))) (Kq_no _)
    | 6 =>
      refine Kq_eq (by rw [x_partsTo]) ?_
      exact Kq_ite (Kq_c rfl (ih _ _ _)) (Kq_no _)
    | 7 =>
      refine Kq_eq (by rw [x_partsTo]) ?_
      exact Kq_ite (Kq_c rfl (ih _ _ _)) (Kq_ite (Kq_ite (Kq_ite (Kq_c rfl (ih _ _ _)) (Kq_ite (Kq_ite (Kq_ite (Kq_c rfl (ih _ _ _)) (Kq_ite (Kq_c rfl (ih _ _ _)) (Kq_no _))) (Kq_no _)) (Kq_no _))) (Kq_no _)) (Kq_c rfl (ih _ _ _)))
    | 8 =>
      refine Kq_eq (by rw [x_partsTo]) ?_
      exact Kq_c rfl (ih _ _ _)
    | 9 =>
      refine Kq_eq (by rw [x_partsTo]) ?_
      exact Kq_ob (Kq_c rfl (kq_push _ _ _ _)) (fun _ h555 => Kq_ob (Kq_c h555 (kq_write _ _ _ _)) (fun _ h556 => Kq_c h556 (ih _ _ _)))
    | 10 =>
      refine Kq_eq (by rw [x_partsTo]) ?_
      exact Kq_ob (Kq_c rfl (kq_keysIn _ _ _ _)) (fun _ h557 => Kq_c h557 (ih _ _ _))
    | 11 =>
      refine Kq_eq (by rw [x_partsTo]) ?_
      exact Kq_ite (Kq_c rfl (ih _ _ _)) (Kq_no _)
    | 12 =>
      refine Kq_eq (by rw [x_partsTo]) ?_
      exact Kq_ob (Kq_c rfl (kq_pass _ _ _ _)) (fun _ h558 => Kq_so h558)
    | b + 13 =>
      refine Kq_eq (by rw [x_partsTo]) (Kq_no _)
theorem kq_without : ∀ (k b : Nat) (L : Nat → Int32) (σ : MS), Kq (x_without k b L σ) (kq σ) := by
  intro k
  induction k with
  | zero => intro b L σ; exact Kq_no _
  | succ k ih =>
    intro b L σ
    match b with
    | 0 =>
      refine Kq_eq (by rw [x_without]) ?_
      exact Kq_ite (Kq_ite (Kq_ite (Kq_c rfl (ih _ _ _)) (Kq_c rfl (ih _ _ _))) (Kq_no _)) (Kq_no _)
    | 1 =>
      refine Kq_eq (by rw [x_without]) ?_
      exact Kq_ite (Kq_c rfl (ih _ _ _)) (Kq_ite (Kq_ite (Kq_c rfl (ih _ _ _)) (Kq_no _)) (Kq_no _))
    | 2 =>
      refine Kq_eq (by rw [x_without]) ?_
      exact Kq_ite (Kq_c rfl (ih _ _ _)) (Kq_c rfl (ih _ _ _))
    | 3 =>
      refine Kq_eq (by rw [x_without]) ?_
      exact Kq_c rfl (ih _ _ _)
    | 4 =>
      refine Kq_eq (by rw [x_without]) ?_
      exact Kq_c rfl (ih _ _ _)
    | 5 =>
      refine Kq_eq (by rw [x_without]) ?_
      exact Kq_ob (Kq_c rfl (kq_stringOf__51 _ _ _ _)) (fun _ h559 => Kq_so h559)
    | 6 =>
      refine Kq_eq (by rw [x_without]) ?_
      exact Kq_c rfl (ih _ _ _)
    | 7 =>
      refine Kq_eq (by rw [x_without]) ?_
      exact Kq_ite (Kq_c rfl (ih _ _ _)) (Kq_ite (Kq_c rfl (ih _ _ _)) (Kq_ite (Kq_ob (Kq_c rfl (kq_push _ _ _ _)) (fun _ h560 => Kq_c h560 (ih _ _ _))) (Kq_no _)))
    | 8 =>
      refine Kq_eq (by rw [x_without]) ?_
      exact Kq_c rfl (ih _ _ _)
    | 9 =>
      refine Kq_eq (by rw [x_without]) ?_
      exact Kq_ite (Kq_ite (Kq_ob (Kq_c rfl (kq_setOf _ _ _ _)) (fun _ h561 => Kq_c h561 (ih _ _ _))) (Kq_c rfl (ih _ _ _))) (Kq_no _)
    | 10 =>
      refine Kq_eq (by rw [x_without]) ?_
      exact Kq_ob (Kq_c rfl (kq_tupleOf _ _ _ _)) (fun _ h562 => Kq_c h562 (ih _ _ _))
    | 11 =>
      refine Kq_eq (by rw [x_without]) ?_
      exact Kq_so rfl
    | b + 12 =>
      refine Kq_eq (by rw [x_without]) (Kq_no _)
theorem kq_takeFrom : ∀ (k b : Nat) (L : Nat → Int32) (σ : MS), Kq (x_takeFrom k b L σ) (kq σ) := by
  intro k
  induction k with
  | zero => intro b L σ; exact Kq_no _
  | succ k ih =>
    intro b L σ
    match b with
    | 0 =>
      refine Kq_eq (by rw [x_takeFrom]) ?_
      exact Kq_ite (Kq_ite (Kq_ob (Kq_c rfl (kq_workParts _ _ _ _)) (fun _ h563 => Kq_ite (Kq_ob (Kq_c h563 (kq_workParts _ _ _ _)) (fun _ h564 => Kq_c h564 (ih _ _ _))) (Kq_c h563 (ih _ _ _)))) (Kq_no _)) (Kq_no _)
    | 1 =>
      refine Kq_eq (by rw [x_takeFrom]) ?_
      exact Kq_ite (Kq_ob (Kq_c rfl (kq_readParts _ _ _ _)) (fun _ h565 => Kq_c h565 (ih _ _ _))) (Kq_c rfl (ih _ _ _))
    | 2 =>
      refine Kq_eq (by rw [x_takeFrom]) ?_
      exact Kq_ite (Kq_c rfl (ih _ _ _)) (Kq_so rfl)
    | 3 =>
      refine Kq_eq (by rw [x_takeFrom]) ?_
      exact Kq_ob (Kq_c rfl (kq_sweep _ _ _ _)) (fun _ h566 => Kq_ite (Kq_ob (Kq_c h566 (kq_kind _ _ _ _)) (fun _ h567 => Kq_ite (Kq_ite (Kq_ite (Kq_c h567 (ih _ _ _)) (Kq_c h567 (ih _ _ _))) (Kq_c h567 (ih _ _ _))) (Kq_no _))) (Kq_no _))
    | 4 =>
      refine Kq_eq (by rw [x_takeFrom]) ?_
      exact Kq_ite (Kq_c rfl (ih _ _ _)) (Kq_ite (Kq_c rfl (ih _ _ _)) (Kq_c rfl (ih _ _ _)))
    | 5 =>
      refine Kq_eq (by rw [x_takeFrom]) ?_
      exact Kq_ob (Kq_c rfl (kq_fail _ _ _ _)) (fun _ h568 => Kq_so h568)
    | 6 =>
      refine Kq_eq (by rw [x_takeFrom]) ?_
      exact Kq_ite (Kq_ob (Kq_c rfl (kq_push _ _ _ _)) (fun _ h569 => Kq_ite (Kq_c h569 (ih _ _ _)) (Kq_ite (Kq_ite (Kq_c h569 (ih _ _ _)) (Kq_c h569 (ih _ _ _))) (Kq_no _)))) (Kq_no _)
    | 7 =>
      refine Kq_eq (by rw [x_takeFrom]) ?_
      exact Kq_c rfl (ih _ _ _)
    | 8 =>
      refine Kq_eq (by rw [x_takeFrom]) ?_
      exact Kq_ob (Kq_c rfl (kq_memberAt _ _ _ _)) (fun _ h570 => Kq_ite (Kq_c h570 (ih _ _ _)) (Kq_no _))
    | 9 =>
      refine Kq_eq (by rw [x_takeFrom]) ?_
      exact Kq_ob (Kq_c rfl (kq_without _ _ _ _)) (fun _ h571 => Kq_ob (Kq_c h571 (kq_answer _ _ _ _)) (fun _ h572 => Kq_ob (Kq_c h572 (kq_push _ _ _ _)) (fun _ h573 => Kq_ob (Kq_c h573 (kq_write _ _ _ _)) (fun _ h574 => Kq_c h574 (ih _ _ _)))))
    | 10 =>
      refine Kq_eq (by rw [x_takeFrom]) ?_
      exact Kq_ob (Kq_c rfl (kq_write _ _ _ _)) (fun _ h575 => Kq_ob (Kq_c h575 (kq_pass _ _ _ _)) (fun _ h576 => Kq_so h576))
    | b + 11 =>
      refine Kq_eq (by rw [x_takeFrom]) (Kq_no _)
theorem kq_makePoint : ∀ (k b : Nat) (L : Nat → Int32) (σ : MS), Kq (x_makePoint k b L σ) (kq σ) := by
  intro k
  induction k with
  | zero => intro b L σ; exact Kq_no _
  | succ k ih =>
    intro b L σ
    match b with
    | 0 =>
      refine Kq_eq (by rw [x_makePoint]) ?_
      exact Kq_ite (Kq_c rfl (ih _ _ _)) (Kq_ite (Kq_c rfl (ih _ _ _)) (Kq_c rfl (ih _ _ _)))
    | 1 =>
      refine Kq_eq (by rw [x_makePoint]) ?_
      exact Kq_ob (Kq_c rfl (kq_fail _ _ _ _)) (fun _ h577 => Kq_so h577)
    | 2 =>
      refine Kq_eq (by rw [x_makePoint]) ?_
      exact Kq_ite (Kq_c rfl (ih _ _ _)) (Kq_no _)
    | 3 =>
      refine Kq_eq (by rw [x_makePoint]) ?_
      exact Kq_c rfl (ih _ _ _)
    | 4 =>
      refine Kq_eq (by rw [x_makePoint]) ?_
      exact Kq_ite (Kq_c rfl (ih _ _ _)) (Kq_ite (Kq_ite (Kq_c rfl (ih _ _ _)) (Kq_no _)) (Kq_no _))
    | 5 =>
      refine Kq_eq (by rw [x_makePoint]) ?_
      exact Kq_c rfl (ih _ _ _)
    | 6 =>
      refine Kq_eq (by rw [x_makePoint]) ?_
      exact Kq_ite (Kq_c rfl (ih _ _ _)) (Kq_no _)
    | 7 =>
      refine Kq_eq (by rw [x_makePoint]) ?_
      exact Kq_c rfl (ih _ _ _)
    | 8 =>
      refine Kq_eq (by rw [x_makePoint]) ?_
      exact Kq_so rfl
    | b + 9 =>
      refine Kq_eq (by rw [x_makePoint]) (Kq_no _)
theorem kq_enter : ∀ (k b : Nat) (L : Nat → Int32) (σ : MS), Kq (x_enter k b L σ) (kq σ) := by
  intro k
  induction k with
  | zero => intro b L σ; exact Kq_no _
  | succ k ih =>
    intro b L σ
    match b with
    | 0 =>
      refine Kq_eq (by rw [x_enter]) ?_
      exact Kq_ite (Kq_c rfl (ih _ _ _)) (Kq_ite (Kq_c rfl (ih _ _ _)) (Kq_no _))
    | 1 =>
      refine Kq_eq (by rw [x_enter]) ?_
      exact Kq_ob (Kq_c rfl (kq_finished _ _ _ _)) (fun _ h578 => Kq_c h578 (ih _ _ _))
    | 2 =>
      refine Kq_eq (by rw [x_enter]) ?_
      exact Kq_so rfl
    | b + 3 =>
      refine Kq_eq (by rw [x_enter]) (Kq_no _)
theorem kq_beginCall : ∀ (k b : Nat) (L : Nat → Int32) (σ : MS), Kq (x_beginCall k b L σ) (kq σ) := by
  intro k
  induction k with
  | zero => intro b L σ; exact Kq_no _
  | succ k ih =>
    intro b L σ
    match b with
    | 0 =>
      refine Kq_eq (by rw [x_beginCall]) ?_
      exact Kq_ite (Kq_ite (Kq_c rfl (ih _ _ _)) (Kq_no _)) (Kq_no _)
    | 1 =>
      refine Kq_eq (by rw [x_beginCall]) ?_
      exact Kq_ite (Kq_c rfl (ih _ _ _)) (Kq_ite (Kq_ite (Kq_c rfl (ih _ _ _)) (Kq_ob (Kq_c rfl (kq_eval _ _ _ _)) (fun _ h579 => Kq_c h579 (ih _ _ _)))) (Kq_no _))
    | 2 =>
      refine Kq_eq (by rw [x_beginCall]) ?_
      exact Kq_ob (Kq_c rfl (kq_push _ _ _ _)) (fun _ h580 => Kq_c h580 (ih _ _ _))
    | 3 =>
      refine Kq_eq (by rw [x_beginCall]) ?_
      exact Kq_ite (Kq_c rfl (ih _ _ _)) (Kq_no _)
    | 4 =>
      refine Kq_eq (by rw [x_beginCall]) ?_
      exact Kq_ite (Kq_c rfl (ih _ _ _)) (Kq_so rfl)
    | 5 =>
      refine Kq_eq (by rw [x_beginCall]) ?_
      exact Kq_ite (Kq_ite (Kq_ob (Kq_c rfl (kq_fail _ _ _ _)) (fun _ h581 => Kq_so h581)) (Kq_c rfl (ih _ _ _))) (Kq_no _)
    | 6 =>
      refine Kq_eq (by rw [x_beginCall]) ?_
      exact Kq_c rfl (ih _ _ _)
    | 7 =>
      refine Kq_eq (by rw [x_beginCall]) ?_
      exact Kq_ite (Kq_ite (Kq_c rfl (ih _ _ _)) (Kq_ite (Kq_ite (Kq_c rfl (ih _ _ _)) (Kq_ite (Kq_ite (Kq_c rfl (ih _ _ _)) (Kq_ite (Kq_ob (Kq_c rfl (kq_size _ _ _ _)) (fun _ h582 => Kq_c h582 (ih _ _ _))) (Kq_no _))) (Kq_no _))) (Kq_no _))) (Kq_no _)
    | 8 =>
      refine Kq_eq (by rw [x_beginCall]) ?_
      exact Kq_c rfl (ih _ _ _)
    | 9 =>
      refine Kq_eq (by rw [x_beginCall]) ?_
      exact Kq_c rfl (ih _ _ _)
    | 10 =>
      refine Kq_eq (by rw [x_beginCall]) ?_
      exact Kq_c rfl (ih _ _ _)
    | 11 =>
      refine Kq_eq (by rw [x_beginCall]) ?_
      exact Kq_ite (Kq_c rfl (ih _ _ _)) (Kq_ob (Kq_c rfl (kq_fail _ _ _ _)) (fun _ h583 => Kq_so h583))
    | 12 =>
      refine Kq_eq (by rw [x_beginCall]) ?_
      exact Kq_c rfl (ih _ _ _)
    | 13 =>
      refine Kq_eq (by rw [x_beginCall]) ?_
      exact Kq_ite (Kq_ite (Kq_c rfl (ih _ _ _)) (Kq_no _)) (Kq_no _)
    | 14 =>
      refine Kq_eq (by rw [x_beginCall]) ?_
      exact Kq_ite (Kq_c rfl (ih _ _ _)) (Kq_no _)
    | 15 =>
      refine Kq_eq (by rw [x_beginCall]) ?_
      exact Kq_ite (Kq_ite (Kq_c rfl (ih _ _ _)) (Kq_no _)) (Kq_no _)
    | 16 =>
      refine Kq_eq (by rw [x_beginCall]) ?_
      exact Kq_c rfl (ih _ _ _)
    | 17 =>
      refine Kq_eq (by rw [x_beginCall]) ?_
      exact Kq_ite (Kq_c rfl (ih _ _ _)) (Kq_ite (Kq_ite (Kq_c rfl (ih _ _ _)) (Kq_ite (Kq_c rfl (ih _ _ _)) (Kq_no _))) (Kq_no _))
    | 18 =>
      refine Kq_eq (by rw [x_beginCall]) ?_
      exact Kq_c rfl (ih _ _ _)
    | 19 =>
      refine Kq_eq (by rw [x_beginCall]) ?_
      exact Kq_ite (Kq_c rfl (ih _ _ _)) (Kq_no _)
    | 20 =>
      refine Kq_eq (by rw [x_beginCall]) ?_
      exact Kq_c rfl (ih _ _ _)
    | 21 =>
      refine Kq_eq (by rw [x_beginCall]) ?_
      exact Kq_c rfl (ih _ _ _)
    | 22 =>
      refine Kq_eq (by rw [x_beginCall]) ?_
      exact Kq_ite (Kq_ite (Kq_c rfl (ih _ _ _)) (Kq_no _)) (Kq_no _)
    | 23 =>
      refine Kq_eq (by rw [x_beginCall]) ?_
      exact Kq_ite (Kq_ob (Kq_c rfl (kq_enter _ _ _ _)) (fun _ h584 => Kq_so h584)) (Kq_no _)
    | b + 24 =>
      refine Kq_eq (by rw [x_beginCall]) (Kq_no _)
theorem kq_decide : ∀ (k b : Nat) (L : Nat → Int32) (σ : MS), Kq (x_decide k b L σ) (kq σ) := by
  intro k
  induction k with
  | zero => intro b L σ; exact Kq_no _
  | succ k ih =>
    intro b L σ
    match b with
    | 0 =>
      refine Kq_eq (by rw [x_decide]) ?_
      exact Kq_c rfl (ih _ _ _)
    | 1 =>
      refine Kq_eq (by rw [x_decide]) ?_
      exact Kq_ite (Kq_c rfl (ih _ _ _)) (Kq_ite (Kq_ite (Kq_ite (Kq_c rfl (ih _ _ _)) (Kq_c rfl (ih _ _ _))) (Kq_no _)) (Kq_c rfl (ih _ _ _)))
    | 2 =>
      refine Kq_eq (by rw [x_decide]) ?_
      exact Kq_c rfl (ih _ _ _)
    | 3 =>
      refine Kq_eq (by rw [x_decide]) ?_
      exact Kq_ite (Kq_ite (Kq_ob (Kq_c rfl (kq_makePoint _ _ _ _)) (fun _ h585 => Kq_c h585 (ih _ _ _))) (Kq_c rfl (ih _ _ _))) (Kq_no _)
    | 4 =>
      refine Kq_eq (by rw [x_decide]) ?_
      exact Kq_ite (Kq_ite (Kq_ob (Kq_c rfl (kq_holds _ _ _ _)) (fun _ h586 => Kq_c h586 (ih _ _ _))) (Kq_no _)) (Kq_c rfl (ih _ _ _))
    | 5 =>
      refine Kq_eq (by rw [x_decide]) ?_
      exact Kq_ite (Kq_c rfl (ih _ _ _)) (Kq_so rfl)
    | 6 =>
      refine Kq_eq (by rw [x_decide]) ?_
      exact Kq_ite (Kq_c rfl (ih _ _ _)) (Kq_ite (Kq_ob (Kq_c rfl (kq_enter _ _ _ _)) (fun _ h587 => Kq_so h587)) (Kq_no _))
    | 7 =>
      refine Kq_eq (by rw [x_decide]) ?_
      exact Kq_ite (Kq_c rfl (ih _ _ _)) (Kq_no _)
    | 8 =>
      refine Kq_eq (by rw [x_decide]) ?_
      exact Kq_ob (Kq_c rfl (kq_pass _ _ _ _)) (fun _ h588 => Kq_so h588)
    | b + 9 =>
      refine Kq_eq (by rw [x_decide]) (Kq_no _)
theorem kq_testAgain : ∀ (k b : Nat) (L : Nat → Int32) (σ : MS), Kq (x_testAgain k b L σ) (kq σ) := by
  intro k
  induction k with
  | zero => intro b L σ; exact Kq_no _
  | succ k ih =>
    intro b L σ
    match b with
    | 0 =>
      refine Kq_eq (by rw [x_testAgain]) ?_
      exact Kq_ite (Kq_ob (Kq_c rfl (kq_holds _ _ _ _)) (fun _ h589 => Kq_ite (Kq_c h589 (ih _ _ _)) (Kq_so h589))) (Kq_no _)
    | 1 =>
      refine Kq_eq (by rw [x_testAgain]) ?_
      exact Kq_ite (Kq_c rfl (ih _ _ _)) (Kq_ite (Kq_ob (Kq_c rfl (kq_enter _ _ _ _)) (fun _ h590 => Kq_c h590 (ih _ _ _))) (Kq_no _))
    | 2 =>
      refine Kq_eq (by rw [x_testAgain]) ?_
      exact Kq_ob (Kq_c rfl (kq_goOnBehind _ _ _ _)) (fun _ h591 => Kq_c h591 (ih _ _ _))
    | 3 =>
      refine Kq_eq (by rw [x_testAgain]) ?_
      exact Kq_so rfl
    | b + 4 =>
      refine Kq_eq (by rw [x_testAgain]) (Kq_no _)
theorem kq_beginFor : ∀ (k b : Nat) (L : Nat → Int32) (σ : MS), Kq (x_beginFor k b L σ) (kq σ) := by
  intro k
  induction k with
  | zero => intro b L σ; exact Kq_no _
  | succ k ih =>
    intro b L σ
    match b with
    | 0 =>
      refine Kq_eq (by rw [x_beginFor]) ?_
      exact Kq_ite (Kq_ite (Kq_c rfl (ih _ _ _)) (Kq_no _)) (Kq_no _)
    | 1 =>
      refine Kq_eq (by rw [x_beginFor]) ?_
      exact Kq_ite (Kq_ite (Kq_c rfl (ih _ _ _)) (Kq_no _)) (Kq_no _)
    | 2 =>
      refine Kq_eq (by rw [x_beginFor]) ?_
      exact Kq_ite (Kq_ite (Kq_c rfl (ih _ _ _)) (Kq_no _)) (Kq_no _)
    | 3 =>
      refine Kq_eq (by rw [x_beginFor]) ?_
      exact Kq_ob (Kq_c rfl (kq_seek _ _ _ _)) (fun _ h592 => Kq_ob (Kq_c h592 (kq_goOnBehind _ _ _ _)) (fun _ h593 => Kq_so h593))
    | b + 4 =>
      refine Kq_eq (by rw [x_beginFor]) (Kq_no _)
theorem kq_loopOf : ∀ (k b : Nat) (L : Nat → Int32) (σ : MS), Kq (x_loopOf k b L σ) (kq σ) := by
  intro k
  induction k with
  | zero => intro b L σ; exact Kq_no _
  | succ k ih =>
    intro b L σ
    match b with
    | 0 =>
      refine Kq_eq (by rw [x_loopOf]) ?_
      exact Kq_ite (Kq_ite (Kq_c rfl (ih _ _ _)) (Kq_no _)) (Kq_no _)
    | 1 =>
      refine Kq_eq (by rw [x_loopOf]) ?_
      exact Kq_ite (Kq_ite (Kq_c rfl (ih _ _ _)) (Kq_ite (Kq_ite (Kq_c rfl (ih _ _ _)) (Kq_ite (Kq_ite (Kq_c rfl (ih _ _ _)) (Kq_no _)) (Kq_no _))) (Kq_no _))) (Kq_no _)
    | 2 =>
      refine Kq_eq (by rw [x_loopOf]) ?_
      exact Kq_so rfl
    | b + 3 =>
      refine Kq_eq (by rw [x_loopOf]) (Kq_no _)
theorem kq_leave : ∀ (k b : Nat) (L : Nat → Int32) (σ : MS), Kq (x_leave k b L σ) (kq σ) := by
  intro k
  induction k with
  | zero => intro b L σ; exact Kq_no _
  | succ k ih =>
    intro b L σ
    match b with
    | 0 =>
      refine Kq_eq (by rw [x_leave]) ?_
      exact Kq_ob (Kq_c rfl (kq_loopOf _ _ _ _)) (fun _ h594 => Kq_ite (Kq_ite (Kq_c h594 (ih _ _ _)) (Kq_c h594 (ih _ _ _))) (Kq_no _))
    | 1 =>
      refine Kq_eq (by rw [x_leave]) ?_
      exact Kq_c rfl (ih _ _ _)
    | 2 =>
      refine Kq_eq (by rw [x_leave]) ?_
      exact Kq_ite (Kq_ite (Kq_ite (Kq_c rfl (ih _ _ _)) (Kq_ob (Kq_c rfl (kq_closeFor _ _ _ _)) (fun _ h595 => Kq_c h595 (ih _ _ _)))) (Kq_c rfl (ih _ _ _))) (Kq_no _)
    | 3 =>
      refine Kq_eq (by rw [x_leave]) ?_
      exact Kq_ite (Kq_c rfl (ih _ _ _)) (Kq_c rfl (ih _ _ _))
    | 4 =>
      refine Kq_eq (by rw [x_leave]) ?_
      exact Kq_ob (Kq_c rfl (kq_seek _ _ _ _)) (fun _ h596 => Kq_c h596 (ih _ _ _))
    | 5 =>
      refine Kq_eq (by rw [x_leave]) ?_
      exact Kq_ob (Kq_c rfl (kq_goOnBehind _ _ _ _)) (fun _ h597 => Kq_c h597 (ih _ _ _))
    | 6 =>
      refine Kq_eq (by rw [x_leave]) ?_
      exact Kq_ite (Kq_c rfl (ih _ _ _)) (Kq_ob (Kq_c rfl (kq_goOnBehind _ _ _ _)) (fun _ h598 => Kq_c h598 (ih _ _ _)))
    | 7 =>
      refine Kq_eq (by rw [x_leave]) ?_
      exact Kq_ite (Kq_c rfl (ih _ _ _)) (Kq_no _)
    | 8 =>
      refine Kq_eq (by rw [x_leave]) ?_
      exact Kq_so rfl
    | b + 9 =>
      refine Kq_eq (by rw [x_leave]) (Kq_no _)
theorem kq_returns : ∀ (k b : Nat) (L : Nat → Int32) (σ : MS), Kq (x_returns k b L σ) (kq σ) := by
  intro k
  induction k with
  | zero => intro b L σ; exact Kq_no _
  | succ k ih =>
    intro b L σ
    match b with
    | 0 =>
      refine Kq_eq (by rw [x_returns]) ?_
      exact Kq_ite (Kq_ite (Kq_c rfl (ih _ _ _)) (Kq_ite (Kq_ob (Kq_c rfl (kq_eval _ _ _ _)) (fun _ h599 => Kq_ite (Kq_c h599 (ih _ _ _)) (Kq_c h599 (ih _ _ _)))) (Kq_no _))) (Kq_no _)
    | 1 =>
      refine Kq_eq (by rw [x_returns]) ?_
      exact Kq_ob (Kq_c rfl (kq_pop _ _ _ _)) (fun _ h600 => Kq_c h600 (ih _ _ _))
    | 2 =>
      refine Kq_eq (by rw [x_returns]) ?_
      exact Kq_c rfl (ih _ _ _)
    | 3 =>
      refine Kq_eq (by rw [x_returns]) ?_
      exact Kq_ite (Kq_ob (Kq_c rfl (kq_giveBack _ _ _ _)) (fun _ h601 => Kq_ob (Kq_c h601 (kq_goOnBehind _ _ _ _)) (fun _ h602 => Kq_c h602 (ih _ _ _)))) (Kq_c rfl (ih _ _ _))
    | 4 =>
      refine Kq_eq (by rw [x_returns]) ?_
      exact Kq_so rfl
    | b + 5 =>
      refine Kq_eq (by rw [x_returns]) (Kq_no _)
theorem kq_putOut : ∀ (k b : Nat) (L : Nat → Int32) (σ : MS), Kq (x_putOut k b L σ) (kq σ) := by
  intro k
  induction k with
  | zero => intro b L σ; exact Kq_no _
  | succ k ih =>
    intro b L σ
    match b with
    | 0 =>
      refine Kq_eq (by rw [x_putOut]) ?_
      exact Kq_ite (Kq_c rfl (ih _ _ _)) (Kq_ite (Kq_c rfl (ih _ _ _)) (Kq_no _))
    | 1 =>
      refine Kq_eq (by rw [x_putOut]) ?_
      exact Kq_ite (Kq_c rfl (ih _ _ _)) (Kq_c rfl (ih _ _ _))
    | 2 =>
      refine Kq_eq (by rw [x_putOut]) ?_
      exact Kq_c rfl (ih _ _ _)
    | 3 =>
      refine Kq_eq (by rw [x_putOut]) ?_
      exact Kq_so rfl
    | b + 4 =>
      refine Kq_eq (by rw [x_putOut]) (Kq_no _)
theorem kq_prints : ∀ (k b : Nat) (L : Nat → Int32) (σ : MS), Kq (x_prints k b L σ) (kq σ) := by
  intro k
  induction k with
  | zero => intro b L σ; exact Kq_no _
  | succ k ih =>
    intro b L σ
    match b with
    | 0 =>
      refine Kq_eq (by rw [x_prints]) ?_
      exact Kq_ite (Kq_c rfl (ih _ _ _)) (Kq_no _)
    | 1 =>
      refine Kq_eq (by rw [x_prints]) ?_
      exact Kq_ite (Kq_c rfl (ih _ _ _)) (Kq_ite (Kq_ob (Kq_c rfl (kq_eval _ _ _ _)) (fun _ h603 => Kq_ite (Kq_c h603 (ih _ _ _)) (Kq_no _))) (Kq_c rfl (ih _ _ _)))
    | 2 =>
      refine Kq_eq (by rw [x_prints]) ?_
      exact Kq_ite (Kq_c rfl (ih _ _ _)) (Kq_so rfl)
    | 3 =>
      refine Kq_eq (by rw [x_prints]) ?_
      exact Kq_c rfl (ih _ _ _)
    | 4 =>
      refine Kq_eq (by rw [x_prints]) ?_
      exact Kq_ite (Kq_c rfl (ih _ _ _)) (Kq_c rfl (ih _ _ _))
    | 5 =>
      refine Kq_eq (by rw [x_prints]) ?_
      exact Kq_ite (Kq_ob (Kq_c rfl (kq_print _ _ _ _)) (fun _ h604 => Kq_c h604 (ih _ _ _))) (Kq_no _)
    | 6 =>
      refine Kq_eq (by rw [x_prints]) ?_
      exact Kq_ite (Kq_c rfl (ih _ _ _)) (Kq_ite (Kq_ob (Kq_c rfl (kq_putOut _ _ _ _)) (fun _ h605 => Kq_c h605 (ih _ _ _))) (Kq_no _))
    | 7 =>
      refine Kq_eq (by rw [x_prints]) ?_
      exact Kq_ite (Kq_c rfl (ih _ _ _)) (Kq_c rfl (ih _ _ _))
    | 8 =>
      refine Kq_eq (by rw [x_prints]) ?_
      exact Kq_c rfl (ih _ _ _)
    | 9 =>
      refine Kq_eq (by rw [x_prints]) ?_
      exact Kq_ob (Kq_c rfl (kq_putOut _ _ _ _)) (fun _ h606 => Kq_c h606 (ih _ _ _))
    | 10 =>
      refine Kq_eq (by rw [x_prints]) ?_
      exact Kq_ob (Kq_c rfl (kq_pass _ _ _ _)) (fun _ h607 => Kq_so h607)
    | b + 11 =>
      refine Kq_eq (by rw [x_prints]) (Kq_no _)
theorem kq_succeed : ∀ (k b : Nat) (L : Nat → Int32) (σ : MS), Kq (x_succeed k b L σ) (kq σ) := by
  intro k
  induction k with
  | zero => intro b L σ; exact Kq_no _
  | succ k ih =>
    intro b L σ
    match b with
    | 0 =>
      refine Kq_eq (by rw [x_succeed]) ?_
      exact Kq_ite (Kq_ob (Kq_c rfl (kq_fail _ _ _ _)) (fun _ h608 => Kq_so h608)) (Kq_c rfl (ih _ _ _))
    | 1 =>
      refine Kq_eq (by rw [x_succeed]) ?_
      exact Kq_c rfl (ih _ _ _)
    | 2 =>
      refine Kq_eq (by rw [x_succeed]) ?_
      exact Kq_ite (Kq_c rfl (ih _ _ _)) (Kq_no _)
    | 3 =>
      refine Kq_eq (by rw [x_succeed]) ?_
      exact Kq_ob (Kq_c rfl (kq_pass _ _ _ _)) (fun _ h609 => Kq_so h609)
    | b + 4 =>
      refine Kq_eq (by rw [x_succeed]) (Kq_no _)
theorem kq_backTrack : ∀ (k b : Nat) (L : Nat → Int32) (σ : MS), Kq (x_backTrack k b L σ) (kq σ) := by
  intro k
  induction k with
  | zero => intro b L σ; exact Kq_no _
  | succ k ih =>
    intro b L σ
    match b with
    | 0 =>
      refine Kq_eq (by rw [x_backTrack]) ?_
      exact Kq_ite (Kq_ob (Kq_c rfl (kq_fail _ _ _ _)) (fun _ h610 => Kq_so h610)) (Kq_c rfl (ih _ _ _))
    | 1 =>
      refine Kq_eq (by rw [x_backTrack]) ?_
      exact Kq_c rfl (ih _ _ _)
    | 2 =>
      refine Kq_eq (by rw [x_backTrack]) ?_
      exact Kq_ite (Kq_c rfl (ih _ _ _)) (Kq_no _)
    | 3 =>
      refine Kq_eq (by rw [x_backTrack]) ?_
      exact Kq_c rfl (ih _ _ _)
    | 4 =>
      refine Kq_eq (by rw [x_backTrack]) ?_
      exact Kq_ite (Kq_c rfl (ih _ _ _)) (Kq_ite (Kq_ite (Kq_c rfl (ih _ _ _)) (Kq_no _)) (Kq_no _))
    | 5 =>
      refine Kq_eq (by rw [x_backTrack]) ?_
      exact Kq_c rfl (ih _ _ _)
    | 6 =>
      refine Kq_eq (by rw [x_backTrack]) ?_
      exact Kq_ite (Kq_c rfl (ih _ _ _)) (Kq_no _)
    | 7 =>
      refine Kq_eq (by rw [x_backTrack]) ?_
      exact Kq_ite (Kq_ite (Kq_ite (Kq_ite (Kq_ob (Kq_c rfl (kq_assign _ _ _ _)) (fun _ h611 => Kq_ob (Kq_c h611 (kq_pass _ _ _ _)) (fun _ h612 => Kq_c h612 (ih _ _ _)))) (Kq_no _)) (Kq_c rfl (ih _ _ _))) (Kq_no _)) (Kq_no _)
    | 8 =>
      refine Kq_eq (by rw [x_backTrack]) ?_
      exact Kq_ite (Kq_ite (Kq_ob (Kq_c rfl (kq_decide _ _ _ _)) (fun _ h613 => Kq_c h613 (ih _ _ _))) (Kq_no _)) (Kq_no _)
    | 9 =>
      refine Kq_eq (by rw [x_backTrack]) ?_
      exact Kq_so rfl
    | b + 10 =>
      refine Kq_eq (by rw [x_backTrack]) (Kq_no _)
theorem kq_forget : ∀ (k b : Nat) (L : Nat → Int32) (σ : MS), Kq (x_forget k b L σ) (kq σ) := by
  intro k
  induction k with
  | zero => intro b L σ; exact Kq_no _
  | succ k ih =>
    intro b L σ
    match b with
    | 0 =>
      refine Kq_eq (by rw [x_forget]) ?_
      exact Kq_c rfl (ih _ _ _)
    | 1 =>
      refine Kq_eq (by rw [x_forget]) ?_
      exact Kq_ite (Kq_c rfl (ih _ _ _)) (Kq_ite (Kq_c rfl (ih _ _ _)) (Kq_no _))
    | 2 =>
      refine Kq_eq (by rw [x_forget]) ?_
      exact Kq_c rfl (ih _ _ _)
    | 3 =>
      refine Kq_eq (by rw [x_forget]) ?_
      exact Kq_c rfl (ih _ _ _)
    | 4 =>
      refine Kq_eq (by rw [x_forget]) ?_
      exact Kq_ite (Kq_c rfl (ih _ _ _)) (Kq_ite (Kq_ite (Kq_c rfl (ih _ _ _)) (Kq_ite (Kq_c rfl (ih _ _ _)) (Kq_no _))) (Kq_no _))
    | 5 =>
      refine Kq_eq (by rw [x_forget]) ?_
      exact Kq_c rfl (ih _ _ _)
    | 6 =>
      refine Kq_eq (by rw [x_forget]) ?_
      exact Kq_ite (Kq_c rfl (ih _ _ _)) (Kq_no _)
    | 7 =>
      refine Kq_eq (by rw [x_forget]) ?_
      exact Kq_c rfl (ih _ _ _)
    | 8 =>
      refine Kq_eq (by rw [x_forget]) ?_
      exact Kq_c rfl (ih _ _ _)
    | 9 =>
      refine Kq_eq (by rw [x_forget]) ?_
      exact Kq_ite (Kq_ite (Kq_c rfl (ih _ _ _)) (Kq_ite (Kq_c rfl (ih _ _ _)) (Kq_no _))) (Kq_no _)
    | 10 =>
      refine Kq_eq (by rw [x_forget]) ?_
      exact Kq_ite (Kq_c rfl (ih _ _ _)) (Kq_ite (Kq_ite (Kq_c rfl (ih _ _ _)) (Kq_ite (Kq_c rfl (ih _ _ _)) (Kq_no _))) (Kq_no _))
    | 11 =>
      refine Kq_eq (by rw [x_forget]) ?_
      exact Kq_c rfl (ih _ _ _)
    | 12 =>
      refine Kq_eq (by rw [x_forget]) ?_
      exact Kq_ite (Kq_c rfl (ih _ _ _)) (Kq_no _)
    | 13 =>
      refine Kq_eq (by rw [x_forget]) ?_
      exact Kq_c rfl (ih _ _ _)
    | 14 =>
      refine Kq_eq (by rw [x_forget]) ?_
      exact Kq_c rfl (ih _ _ _)
    | 15 =>
      refine Kq_eq (by rw [x_forget]) ?_
      exact Kq_so rfl
    | b + 16 =>
      refine Kq_eq (by rw [x_forget]) (Kq_no _)
theorem kq_begin : ∀ (k b : Nat) (L : Nat → Int32) (σ : MS), Kq (x_begin k b L σ) (kq σ) := by
  intro k
  induction k with
  | zero => intro b L σ; exact Kq_no _
  | succ k ih =>
    intro b L σ
    match b with
    | 0 =>
      refine Kq_eq (by rw [x_begin]) ?_
      exact Kq_c rfl (ih _ _ _)
    | 1 =>
      refine Kq_eq (by rw [x_begin]) ?_
      exact Kq_ite (Kq_ite (Kq_c rfl (ih _ _ _)) (Kq_no _)) (Kq_no _)
    | 2 =>
      refine Kq_eq (by rw [x_begin]) ?_
      exact Kq_c rfl (ih _ _ _)
    | 3 =>
      refine Kq_eq (by rw [x_begin]) ?_
      exact Kq_c rfl (ih _ _ _)
    | 4 =>
      refine Kq_eq (by rw [x_begin]) ?_
      exact Kq_c rfl (ih _ _ _)
    | 5 =>
      refine Kq_eq (by rw [x_begin]) ?_
      exact Kq_c rfl (ih _ _ _)
    | 6 =>
      refine Kq_eq (by rw [x_begin]) ?_
      exact Kq_c rfl (ih _ _ _)
    | 7 =>
      refine Kq_eq (by rw [x_begin]) ?_
      exact Kq_c rfl (ih _ _ _)
    | 8 =>
      refine Kq_eq (by rw [x_begin]) ?_
      exact Kq_c rfl (ih _ _ _)
    | 9 =>
      refine Kq_eq (by rw [x_begin]) ?_
      exact Kq_ob (Kq_c rfl (kq_sweep _ _ _ _)) (fun _ h614 => Kq_ite (Kq_ite (Kq_c h614 (ih _ _ _)) (Kq_ite (Kq_c h614 (ih _ _ _)) (Kq_ite (Kq_c h614 (ih _ _ _)) (Kq_ite (Kq_c h614 (ih _ _ _)) (Kq_ite (Kq_c h614 (ih _ _ _)) (Kq_ite (Kq_c h614 (ih _ _ _)) (Kq_ite (Kq_c h614 (ih _ _ _)) (Kq_ite (Kq_c h614 (ih _ _ _)) (Kq_ite (Kq_c h614 (ih _ _ _)) (Kq_ite (Kq_c h614 (ih _ _ _)) (Kq_ite (Kq_c h614 (ih _ _ _)) (Kq_ite (Kq_c h614 (ih _ _ _)) (Kq_ite (Kq_c h614 (ih _ _ _)) (Kq_ite (Kq_c h614 (ih _ _ _)) (Kq_ite (Kq_c h614 (ih _ _ _)) (Kq_ite (Kq_c h614 (ih _ _ _)) (Kq_c h614 (ih _ _ _)))))))))))))))))) (Kq_no _))
    | 10 =>
      refine Kq_eq (by rw [x_begin]) ?_
      exact Kq_ob (Kq_c rfl (kq_assignTo _ _ _ _)) (fun _ h615 => Kq_c h615 (ih _ _ _))
    | 11 =>
      refine Kq_eq (by rw [x_begin]) ?_
      exact Kq_ob (Kq_c rfl (kq_partsTo _ _ _ _)) (fun _ h616 => Kq_c h616 (ih _ _ _))
    | 12 =>
      refine Kq_eq (by rw [x_begin]) ?_
      exact Kq_ob (Kq_c rfl (kq_takeFrom _ _ _ _)) (fun _ h617 => Kq_c h617 (ih _ _ _))
    | 13 =>
      refine Kq_eq (by rw [x_begin]) ?_
      exact Kq_ob (Kq_c rfl (kq_makePoint _ _ _ _)) (fun _ h618 => Kq_ite (Kq_ob (Kq_c h618 (kq_assign _ _ _ _)) (fun _ h619 => Kq_ob (Kq_c h619 (kq_pass _ _ _ _)) (fun _ h620 => Kq_c h620 (ih _ _ _)))) (Kq_no _))
    | 14 =>
      refine Kq_eq (by rw [x_begin]) ?_
      exact Kq_ob (Kq_c rfl (kq_beginCall _ _ _ _)) (fun _ h621 => Kq_c h621 (ih _ _ _))
    | 15 =>
      refine Kq_eq (by rw [x_begin]) ?_
      exact Kq_ite (Kq_ob (Kq_c rfl (kq_decide _ _ _ _)) (fun _ h622 => Kq_c h622 (ih _ _ _))) (Kq_no _)
    | 16 =>
      refine Kq_eq (by rw [x_begin]) ?_
      exact Kq_ob (Kq_c rfl (kq_testAgain _ _ _ _)) (fun _ h623 => Kq_c h623 (ih _ _ _))
    | 17 =>
      refine Kq_eq (by rw [x_begin]) ?_
      exact Kq_ob (Kq_c rfl (kq_beginFor _ _ _ _)) (fun _ h624 => Kq_c h624 (ih _ _ _))
    | 18 =>
      refine Kq_eq (by rw [x_begin]) ?_
      exact Kq_ob (Kq_c rfl (kq_leave _ _ _ _)) (fun _ h625 => Kq_c h625 (ih _ _ _))
    | 19 =>
      refine Kq_eq (by rw [x_begin]) ?_
      exact Kq_ob (Kq_c rfl (kq_returns _ _ _ _)) (fun _ h626 => Kq_c h626 (ih _ _ _))
    | 20 =>
      refine Kq_eq (by rw [x_begin]) ?_
      exact Kq_ob (Kq_c rfl (kq_prints _ _ _ _)) (fun _ h627 => Kq_c h627 (ih _ _ _))
    | 21 =>
      refine Kq_eq (by rw [x_begin]) ?_
      exact Kq_ite (Kq_ob (Kq_c rfl (kq_holds _ _ _ _)) (fun _ h628 => Kq_ite (Kq_ob (Kq_c h628 (kq_fail _ _ _ _)) (fun _ h629 => Kq_c h629 (ih _ _ _))) (Kq_c h628 (ih _ _ _)))) (Kq_no _)
    | 22 =>
      refine Kq_eq (by rw [x_begin]) ?_
      exact Kq_ob (Kq_c rfl (kq_pass _ _ _ _)) (fun _ h630 => Kq_c h630 (ih _ _ _))
    | 23 =>
      refine Kq_eq (by rw [x_begin]) ?_
      exact Kq_c rfl (ih _ _ _)
    | 24 =>
      refine Kq_eq (by rw [x_begin]) ?_
      exact Kq_ob (Kq_c rfl (kq_succeed _ _ _ _)) (fun _ h631 => Kq_c h631 (ih _ _ _))
    | 25 =>
      refine Kq_eq (by rw [x_begin]) ?_
      exact Kq_ob (Kq_c rfl (kq_backTrack _ _ _ _)) (fun _ h632 => Kq_c h632 (ih _ _ _))
    | 26 =>
      refine Kq_eq (by rw [x_begin]) ?_
      exact Kq_c rfl (ih _ _ _)
    | 27 =>
      refine Kq_eq (by rw [x_begin]) ?_
      exact Kq_ite (Kq_c rfl (ih _ _ _)) (Kq_c rfl (ih _ _ _))
    | 28 =>
      refine Kq_eq (by rw [x_begin]) ?_
      exact Kq_c rfl (ih _ _ _)
    | 29 =>
      refine Kq_eq (by rw [x_begin]) ?_
      exact Kq_ob (Kq_c rfl (kq_forget _ _ _ _)) (fun _ h633 => Kq_c h633 (ih _ _ _))
    | 30 =>
      refine Kq_eq (by rw [x_begin]) ?_
      exact Kq_so rfl
    | b + 31 =>
      refine Kq_eq (by rw [x_begin]) (Kq_no _)
