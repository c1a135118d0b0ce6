/-! What a run never writes stays (reference; made by kn.py). -/
abbrev KnT := (Nat → Int32) × (Nat → Int32) × (Nat → Int32) × (Nat → Int32) × (Nat → Int32) × (Nat → Int32) × (Nat → Int32) × (Nat → Int32) × (Nat → Int32) × (Nat → Int32) × Int32 × Int32 × Int32 × Int32 × Int32 × Int32 × Int32
/-- words, tape, names, params, texts; how many of them -/
def kn (σ : MS) : KnT := (σ.2.2 1, σ.2.2 3, σ.2.2 13, σ.2.2 14, σ.2.2 15, σ.2.2 16, σ.2.2 18, σ.2.2 53, σ.2.2 54, σ.2.2 55, σ.1 4, σ.1 25, σ.1 31, σ.1 73, σ.1 111, σ.1 115, σ.1 120)
def Kn (x : Option (Int32 × MS)) (w : KnT) : Prop := ∀ r, x = some r → kn r.2 = w
theorem Kn_no (w : KnT) : Kn none w := fun _ h => by cases h
theorem Kn_so {r : Int32 × MS} {w : KnT} (h : kn r.2 = w) : Kn (some r) w := fun _ e => by cases e; exact h
theorem Kn_eq {a a' : Option (Int32 × MS)} {w : KnT} (h1 : a = a') (h : Kn a' w) : Kn a w := by rw [h1]; exact h
theorem Kn_c {a : Option (Int32 × MS)} {w w' : KnT} (h : w' = w) (t : Kn a w') : Kn a w := h ▸ t
theorem Kn_ob {x : Option (Int32 × MS)} {f : Int32 × MS → Option (Int32 × MS)} {w : KnT} (h1 : Kn x w) (h2 : ∀ r, kn r.2 = w → Kn (f r) w) : Kn (ob x f) w := by
  intro r hr
  cases x with
  | none => cases hr
  | some s => exact h2 s (h1 s rfl) r hr
theorem Kn_ite {c : Prop} {_ : Decidable c} {a b : Option (Int32 × MS)} {w : KnT} (h1 : Kn a w) (h2 :  Kn b w) : Kn (if c then a else b) w := by
  by_cases h : c
  · rw [if_pos h]; exact h1
  · rw [if_neg h]; exact h2
theorem Kn_od {d : Nat} {f : Nat → Option (Int32 × MS)} {w : KnT} (h : ∀ e, Kn (f e) w) : Kn (od d f) w := by
  cases d with
  | zero => exact Kn_no _
  | succ e => exact h e
theorem kn_copied : ∀ (k b : Nat) (L : Nat → Int32) (σ : MS), Kn (x_copied k b L σ) (kn σ) := by
  intro k
  induction k with
  | zero => intro b L σ; exact Kn_no _
  | succ k ih =>
    intro b L σ
    match b with
    | 0 =>
      refine Kn_eq (by rw [x_copied]) ?_
      exact Kn_ite (Kn_c rfl (ih _ _ _)) (Kn_so rfl)
    | 1 =>
      refine Kn_eq (by rw [x_copied]) ?_
      exact Kn_ite (Kn_ite (Kn_ite (Kn_so rfl) (Kn_no _)) (Kn_c rfl (ih _ _ _))) (Kn_no _)
    | 2 =>
      refine Kn_eq (by rw [x_copied]) ?_
      exact Kn_ite (Kn_c rfl (ih _ _ _)) (Kn_no _)
    | 3 =>
      refine Kn_eq (by rw [x_copied]) ?_
      exact Kn_c rfl (ih _ _ _)
    | 4 =>
      refine Kn_eq (by rw [x_copied]) ?_
      exact Kn_ite (Kn_c rfl (ih _ _ _)) (Kn_ite (Kn_ite (Kn_c rfl (ih _ _ _)) (Kn_no _)) (Kn_no _))
    | 5 =>
      refine Kn_eq (by rw [x_copied]) ?_
      exact Kn_c rfl (ih _ _ _)
    | 6 =>
      refine Kn_eq (by rw [x_copied]) ?_
      exact Kn_ite (Kn_c rfl (ih _ _ _)) (Kn_no _)
    | 7 =>
      refine Kn_eq (by rw [x_copied]) ?_
      exact Kn_ite (Kn_c rfl (ih _ _ _)) (Kn_no _)
    | 8 =>
      refine Kn_eq (by rw [x_copied]) ?_
      exact Kn_so rfl
    | b + 9 =>
      refine Kn_eq (by rw [x_copied]) (Kn_no _)
theorem kn_copyRow__29 : ∀ (k b : Nat) (L : Nat → Int32) (σ : MS), Kn (x_copyRow__29 k b L σ) (kn σ) := by
  intro k
  induction k with
  | zero => intro b L σ; exact Kn_no _
  | succ k ih =>
    intro b L σ
    match b with
    | 0 =>
      refine Kn_eq (by rw [x_copyRow__29]) ?_
      exact Kn_c rfl (ih _ _ _)
    | 1 =>
      refine Kn_eq (by rw [x_copyRow__29]) ?_
      exact Kn_ite (Kn_c rfl (ih _ _ _)) (Kn_ite (Kn_ob (Kn_c rfl (kn_copied _ _ _ _)) (fun _ h1 => Kn_ite (Kn_c h1 (ih _ _ _)) (Kn_no _))) (Kn_no _))
    | 2 =>
      refine Kn_eq (by rw [x_copyRow__29]) ?_
      exact Kn_c rfl (ih _ _ _)
    | 3 =>
      refine Kn_eq (by rw [x_copyRow__29]) ?_
      exact Kn_so rfl
    | b + 4 =>
      refine Kn_eq (by rw [x_copyRow__29]) (Kn_no _)
theorem kn_copyRow__30 : ∀ (k b : Nat) (L : Nat → Int32) (σ : MS), Kn (x_copyRow__30 k b L σ) (kn σ) := by
  intro k
  induction k with
  | zero => intro b L σ; exact Kn_no _
  | succ k ih =>
    intro b L σ
    match b with
    | 0 =>
      refine Kn_eq (by rw [x_copyRow__30]) ?_
      exact Kn_c rfl (ih _ _ _)
    | 1 =>
      refine Kn_eq (by rw [x_copyRow__30]) ?_
      exact Kn_ite (Kn_c rfl (ih _ _ _)) (Kn_ite (Kn_ob (Kn_c rfl (kn_copied _ _ _ _)) (fun _ h2 => Kn_ite (Kn_c h2 (ih _ _ _)) (Kn_no _))) (Kn_no _))
    | 2 =>
      refine Kn_eq (by rw [x_copyRow__30]) ?_
      exact Kn_c rfl (ih _ _ _)
    | 3 =>
      refine Kn_eq (by rw [x_copyRow__30]) ?_
      exact Kn_so rfl
    | b + 4 =>
      refine Kn_eq (by rw [x_copyRow__30]) (Kn_no _)
theorem kn_copyState__30 : ∀ (k b : Nat) (L : Nat → Int32) (σ : MS), Kn (x_copyState__30 k b L σ) (kn σ) := by
  intro k
  induction k with
  | zero => intro b L σ; exact Kn_no _
  | succ k ih =>
    intro b L σ
    match b with
    | 0 =>
      refine Kn_eq (by rw [x_copyState__30]) ?_
      exact Kn_ob (Kn_c rfl (kn_copyRow__30 _ _ _ _)) (fun _ h3 => Kn_ite (Kn_ob (Kn_c h3 (kn_copyRow__30 _ _ _ _)) (fun _ h4 => Kn_ite (Kn_ob (Kn_c h4 (kn_copyRow__30 _ _ _ _)) (fun _ h5 => Kn_so h5)) (Kn_no _))) (Kn_no _))
    | b + 1 =>
      refine Kn_eq (by rw [x_copyState__30]) (Kn_no _)
theorem kn_copyRow__31 : ∀ (k b : Nat) (L : Nat → Int32) (σ : MS), Kn (x_copyRow__31 k b L σ) (kn σ) := by
  intro k
  induction k with
  | zero => intro b L σ; exact Kn_no _
  | succ k ih =>
    intro b L σ
    match b with
    | 0 =>
      refine Kn_eq (by rw [x_copyRow__31]) ?_
      exact Kn_c rfl (ih _ _ _)
    | 1 =>
      refine Kn_eq (by rw [x_copyRow__31]) ?_
      exact Kn_ite (Kn_c rfl (ih _ _ _)) (Kn_ite (Kn_ob (Kn_c rfl (kn_copied _ _ _ _)) (fun _ h6 => Kn_ite (Kn_c h6 (ih _ _ _)) (Kn_no _))) (Kn_no _))
    | 2 =>
      refine Kn_eq (by rw [x_copyRow__31]) ?_
      exact Kn_c rfl (ih _ _ _)
    | 3 =>
      refine Kn_eq (by rw [x_copyRow__31]) ?_
      exact Kn_so rfl
    | b + 4 =>
      refine Kn_eq (by rw [x_copyRow__31]) (Kn_no _)
theorem kn_copyState__31 : ∀ (k b : Nat) (L : Nat → Int32) (σ : MS), Kn (x_copyState__31 k b L σ) (kn σ) := by
  intro k
  induction k with
  | zero => intro b L σ; exact Kn_no _
  | succ k ih =>
    intro b L σ
    match b with
    | 0 =>
      refine Kn_eq (by rw [x_copyState__31]) ?_
      exact Kn_ob (Kn_c rfl (kn_copyRow__31 _ _ _ _)) (fun _ h7 => Kn_ite (Kn_ob (Kn_c h7 (kn_copyRow__31 _ _ _ _)) (fun _ h8 => Kn_ite (Kn_ob (Kn_c h8 (kn_copyRow__31 _ _ _ _)) (fun _ h9 => Kn_so h9)) (Kn_no _))) (Kn_no _))
    | b + 1 =>
      refine Kn_eq (by rw [x_copyState__31]) (Kn_no _)
theorem kn_copyRow__33 : ∀ (k b : Nat) (L : Nat → Int32) (σ : MS), Kn (x_copyRow__33 k b L σ) (kn σ) := by
  intro k
  induction k with
  | zero => intro b L σ; exact Kn_no _
  | succ k ih =>
    intro b L σ
    match b with
    | 0 =>
      refine Kn_eq (by rw [x_copyRow__33]) ?_
      exact Kn_c rfl (ih _ _ _)
    | 1 =>
      refine Kn_eq (by rw [x_copyRow__33]) ?_
      exact Kn_ite (Kn_c rfl (ih _ _ _)) (Kn_ite (Kn_ob (Kn_c rfl (kn_copied _ _ _ _)) (fun _ h10 => Kn_ite (Kn_c h10 (ih _ _ _)) (Kn_no _))) (Kn_no _))
    | 2 =>
      refine Kn_eq (by rw [x_copyRow__33]) ?_
      exact Kn_c rfl (ih _ _ _)
    | 3 =>
      refine Kn_eq (by rw [x_copyRow__33]) ?_
      exact Kn_so rfl
    | b + 4 =>
      refine Kn_eq (by rw [x_copyRow__33]) (Kn_no _)
theorem kn_copyRow__34 : ∀ (k b : Nat) (L : Nat → Int32) (σ : MS), Kn (x_copyRow__34 k b L σ) (kn σ) := by
  intro k
  induction k with
  | zero => intro b L σ; exact Kn_no _
  | succ k ih =>
    intro b L σ
    match b with
    | 0 =>
      refine Kn_eq (by rw [x_copyRow__34]) ?_
      exact Kn_c rfl (ih _ _ _)
    | 1 =>
      refine Kn_eq (by rw [x_copyRow__34]) ?_
      exact Kn_ite (Kn_c rfl (ih _ _ _)) (Kn_ite (Kn_ob (Kn_c rfl (kn_copied _ _ _ _)) (fun _ h11 => Kn_ite (Kn_c h11 (ih _ _ _)) (Kn_no _))) (Kn_no _))
    | 2 =>
      refine Kn_eq (by rw [x_copyRow__34]) ?_
      exact Kn_c rfl (ih _ _ _)
    | 3 =>
      refine Kn_eq (by rw [x_copyRow__34]) ?_
      exact Kn_so rfl
    | b + 4 =>
      refine Kn_eq (by rw [x_copyRow__34]) (Kn_no _)
theorem kn_copyRow__36 : ∀ (k b : Nat) (L : Nat → Int32) (σ : MS), Kn (x_copyRow__36 k b L σ) (kn σ) := by
  intro k
  induction k with
  | zero => intro b L σ; exact Kn_no _
  | succ k ih =>
    intro b L σ
    match b with
    | 0 =>
      refine Kn_eq (by rw [x_copyRow__36]) ?_
      exact Kn_c rfl (ih _ _ _)
    | 1 =>
      refine Kn_eq (by rw [x_copyRow__36]) ?_
      exact Kn_ite (Kn_c rfl (ih _ _ _)) (Kn_ite (Kn_ob (Kn_c rfl (kn_copied _ _ _ _)) (fun _ h12 => Kn_ite (Kn_c h12 (ih _ _ _)) (Kn_no _))) (Kn_no _))
    | 2 =>
      refine Kn_eq (by rw [x_copyRow__36]) ?_
      exact Kn_c rfl (ih _ _ _)
    | 3 =>
      refine Kn_eq (by rw [x_copyRow__36]) ?_
      exact Kn_so rfl
    | b + 4 =>
      refine Kn_eq (by rw [x_copyRow__36]) (Kn_no _)
theorem kn_copyRow__37 : ∀ (k b : Nat) (L : Nat → Int32) (σ : MS), Kn (x_copyRow__37 k b L σ) (kn σ) := by
  intro k
  induction k with
  | zero => intro b L σ; exact Kn_no _
  | succ k ih =>
    intro b L σ
    match b with
    | 0 =>
      refine Kn_eq (by rw [x_copyRow__37]) ?_
      exact Kn_c rfl (ih _ _ _)
    | 1 =>
      refine Kn_eq (by rw [x_copyRow__37]) ?_
      exact Kn_ite (Kn_c rfl (ih _ _ _)) (Kn_ite (Kn_ob (Kn_c rfl (kn_copied _ _ _ _)) (fun _ h13 => Kn_ite (Kn_c h13 (ih _ _ _)) (Kn_no _))) (Kn_no _))
    | 2 =>
      refine Kn_eq (by rw [x_copyRow__37]) ?_
      exact Kn_c rfl (ih _ _ _)
    | 3 =>
      refine Kn_eq (by rw [x_copyRow__37]) ?_
      exact Kn_so rfl
    | b + 4 =>
      refine Kn_eq (by rw [x_copyRow__37]) (Kn_no _)
theorem kn_copyRow__38 : ∀ (k b : Nat) (L : Nat → Int32) (σ : MS), Kn (x_copyRow__38 k b L σ) (kn σ) := by
  intro k
  induction k with
  | zero => intro b L σ; exact Kn_no _
  | succ k ih =>
    intro b L σ
    match b with
    | 0 =>
      refine Kn_eq (by rw [x_copyRow__38]) ?_
      exact Kn_c rfl (ih _ _ _)
    | 1 =>
      refine Kn_eq (by rw [x_copyRow__38]) ?_
      exact Kn_ite (Kn_c rfl (ih _ _ _)) (Kn_ite (Kn_ob (Kn_c rfl (kn_copied _ _ _ _)) (fun _ h14 => Kn_ite (Kn_c h14 (ih _ _ _)) (Kn_no _))) (Kn_no _))
    | 2 =>
      refine Kn_eq (by rw [x_copyRow__38]) ?_
      exact Kn_c rfl (ih _ _ _)
    | 3 =>
      refine Kn_eq (by rw [x_copyRow__38]) ?_
      exact Kn_so rfl
    | b + 4 =>
      refine Kn_eq (by rw [x_copyRow__38]) (Kn_no _)
theorem kn_copyRow__40 : ∀ (k b : Nat) (L : Nat → Int32) (σ : MS), Kn (x_copyRow__40 k b L σ) (kn σ) := by
  intro k
  induction k with
  | zero => intro b L σ; exact Kn_no _
  | succ k ih =>
    intro b L σ
    match b with
    | 0 =>
      refine Kn_eq (by rw [x_copyRow__40]) ?_
      exact Kn_c rfl (ih _ _ _)
    | 1 =>
      refine Kn_eq (by rw [x_copyRow__40]) ?_
      exact Kn_ite (Kn_c rfl (ih _ _ _)) (Kn_ite (Kn_ob (Kn_c rfl (kn_copied _ _ _ _)) (fun _ h15 => Kn_ite (Kn_c h15 (ih _ _ _)) (Kn_no _))) (Kn_no _))
    | 2 =>
      refine Kn_eq (by rw [x_copyRow__40]) ?_
      exact Kn_c rfl (ih _ _ _)
    | 3 =>
      refine Kn_eq (by rw [x_copyRow__40]) ?_
      exact Kn_so rfl
    | b + 4 =>
      refine Kn_eq (by rw [x_copyRow__40]) (Kn_no _)
theorem kn_copyRow__28 : ∀ (k b : Nat) (L : Nat → Int32) (σ : MS), Kn (x_copyRow__28 k b L σ) (kn σ) := by
  intro k
  induction k with
  | zero => intro b L σ; exact Kn_no _
  | succ k ih =>
    intro b L σ
    match b with
    | 0 =>
      refine Kn_eq (by rw [x_copyRow__28]) ?_
      exact Kn_c rfl (ih _ _ _)
    | 1 =>
      refine Kn_eq (by rw [x_copyRow__28]) ?_
      exact Kn_ite (Kn_c rfl (ih _ _ _)) (Kn_ite (Kn_ob (Kn_c rfl (kn_copied _ _ _ _)) (fun _ h16 => Kn_ite (Kn_c h16 (ih _ _ _)) (Kn_no _))) (Kn_no _))
    | 2 =>
      refine Kn_eq (by rw [x_copyRow__28]) ?_
      exact Kn_c rfl (ih _ _ _)
    | 3 =>
      refine Kn_eq (by rw [x_copyRow__28]) ?_
      exact Kn_so rfl
    | b + 4 =>
      refine Kn_eq (by rw [x_copyRow__28]) (Kn_no _)
theorem kn_sweep : ∀ (k b : Nat) (L : Nat → Int32) (σ : MS), Kn (x_sweep k b L σ) (kn σ) := by
  intro k
  induction k with
  | zero => intro b L σ; exact Kn_no _
  | succ k ih =>
    intro b L σ
    match b with
    | 0 =>
      refine Kn_eq (by rw [x_sweep]) ?_
      exact Kn_ite (Kn_c rfl (ih _ _ _)) (Kn_so rfl)
    | 1 =>
      refine Kn_eq (by rw [x_sweep]) ?_
      exact Kn_ite (Kn_c rfl (ih _ _ _)) (Kn_c rfl (ih _ _ _))
    | 2 =>
      refine Kn_eq (by rw [x_sweep]) ?_
      exact Kn_c rfl (ih _ _ _)
    | 3 =>
      refine Kn_eq (by rw [x_sweep]) ?_
      exact Kn_c rfl (ih _ _ _)
    | 4 =>
      refine Kn_eq (by rw [x_sweep]) ?_
      exact Kn_c rfl (ih _ _ _)
    | 5 =>
      refine Kn_eq (by rw [x_sweep]) ?_
      exact Kn_ob (Kn_c rfl (kn_copyRow__29 _ _ _ _)) (fun _ h17 => Kn_ob (Kn_c h17 (kn_copyState__30 _ _ _ _)) (fun _ h18 => Kn_c h18 (ih _ _ _)))
    | 6 =>
      refine Kn_eq (by rw [x_sweep]) ?_
      exact Kn_ite (Kn_c rfl (ih _ _ _)) (Kn_ob (Kn_c rfl (kn_copyState__31 _ _ _ _)) (fun _ h19 => Kn_c h19 (ih _ _ _)))
    | 7 =>
      refine Kn_eq (by rw [x_sweep]) ?_
      exact Kn_ob (Kn_c rfl (kn_copyRow__33 _ _ _ _)) (fun _ h20 => Kn_ob (Kn_c h20 (kn_copyRow__34 _ _ _ _)) (fun _ h21 => Kn_ob (Kn_c h21 (kn_copyRow__36 _ _ _ _)) (fun _ h22 => Kn_ob (Kn_c h22 (kn_copyRow__37 _ _ _ _)) (fun _ h23 => Kn_ob (Kn_c h23 (kn_copyRow__38 _ _ _ _)) (fun _ h24 => Kn_ob (Kn_c h24 (kn_copyRow__40 _ _ _ _)) (fun _ h25 => Kn_c h25 (ih _ _ _)))))))
    | 8 =>
      refine Kn_eq (by rw [x_sweep]) ?_
      exact Kn_ite (Kn_c rfl (ih _ _ _)) (Kn_ite (Kn_ite (Kn_ite (Kn_c rfl (ih _ _ _)) (Kn_ite (Kn_c rfl (ih _ _ _)) (Kn_c rfl (ih _ _ _)))) (Kn_no _)) (Kn_no _))
    | 9 =>
      refine Kn_eq (by rw [x_sweep]) ?_
      exact Kn_ob (Kn_c rfl (kn_copyRow__28 _ _ _ _)) (fun _ h26 => Kn_c h26 (ih _ _ _))
    | 10 =>
      refine Kn_eq (by rw [x_sweep]) ?_
      exact Kn_c rfl (ih _ _ _)
    | 11 =>
      refine Kn_eq (by rw [x_sweep]) ?_
      exact Kn_so rfl
    | b + 12 =>
      refine Kn_eq (by rw [x_sweep]) (Kn_no _)
theorem kn_fail : ∀ (k b : Nat) (L : Nat → Int32) (σ : MS), Kn (x_fail k b L σ) (kn σ) := by
  intro k
  induction k with
  | zero => intro b L σ; exact Kn_no _
  | succ k ih =>
    intro b L σ
    match b with
    | 0 =>
      refine Kn_eq (by rw [x_fail]) ?_
      exact Kn_ite (Kn_c rfl (ih _ _ _)) (Kn_c rfl (ih _ _ _))
    | 1 =>
      refine Kn_eq (by rw [x_fail]) ?_
      exact Kn_c rfl (ih _ _ _)
    | 2 =>
      refine Kn_eq (by rw [x_fail]) ?_
      exact Kn_so rfl
    | b + 3 =>
      refine Kn_eq (by rw [x_fail]) (Kn_no _)
theorem kn_make : ∀ (k b : Nat) (L : Nat → Int32) (σ : MS), Kn (x_make k b L σ) (kn σ) := by
  intro k
  induction k with
  | zero => intro b L σ; exact Kn_no _
  | succ k ih =>
    intro b L σ
    match b with
    | 0 =>
      refine Kn_eq (by rw [x_make]) ?_
      exact Kn_ite (Kn_c rfl (ih _ _ _)) (Kn_ob (Kn_c rfl (kn_fail _ _ _ _)) (fun _ h27 => Kn_so h27))
    | 1 =>
      refine Kn_eq (by rw [x_make]) ?_
      exact Kn_c rfl (ih _ _ _)
    | 2 =>
      refine Kn_eq (by rw [x_make]) ?_
      exact Kn_ite (Kn_c rfl (ih _ _ _)) (Kn_no _)
    | 3 =>
      refine Kn_eq (by rw [x_make]) ?_
      exact Kn_ite (Kn_c rfl (ih _ _ _)) (Kn_no _)
    | 4 =>
      refine Kn_eq (by rw [x_make]) ?_
      exact Kn_ite (Kn_c rfl (ih _ _ _)) (Kn_no _)
    | 5 =>
      refine Kn_eq (by rw [x_make]) ?_
      exact Kn_ite (Kn_c rfl (ih _ _ _)) (Kn_no _)
    | 6 =>
      refine Kn_eq (by rw [x_make]) ?_
      exact Kn_so rfl
    | b + 7 =>
      refine Kn_eq (by rw [x_make]) (Kn_no _)
theorem kn_wholeOf : ∀ (k b : Nat) (L : Nat → Int32) (σ : MS), Kn (x_wholeOf k b L σ) (kn σ) := by
  intro k
  induction k with
  | zero => intro b L σ; exact Kn_no _
  | succ k ih =>
    intro b L σ
    match b with
    | 0 =>
      refine Kn_eq (by rw [x_wholeOf]) ?_
      exact Kn_ite (Kn_c rfl (ih _ _ _)) (Kn_ite (Kn_ite (Kn_c rfl (ih _ _ _)) (Kn_c rfl (ih _ _ _))) (Kn_no _))
    | 1 =>
      refine Kn_eq (by rw [x_wholeOf]) ?_
      exact Kn_ite (Kn_c rfl (ih _ _ _)) (Kn_ob (Kn_c rfl (kn_fail _ _ _ _)) (fun _ h28 => Kn_so h28))
    | 2 =>
      refine Kn_eq (by rw [x_wholeOf]) ?_
      exact Kn_ob (Kn_c rfl (kn_make _ _ _ _)) (fun _ h29 => Kn_ite (Kn_c h29 (ih _ _ _)) (Kn_so h29))
    | 3 =>
      refine Kn_eq (by rw [x_wholeOf]) ?_
      exact Kn_ite (Kn_c rfl (ih _ _ _)) (Kn_c rfl (ih _ _ _))
    | 4 =>
      refine Kn_eq (by rw [x_wholeOf]) ?_
      exact Kn_c rfl (ih _ _ _)
    | 5 =>
      refine Kn_eq (by rw [x_wholeOf]) ?_
      exact Kn_ite (Kn_c rfl (ih _ _ _)) (Kn_no _)
    | 6 =>
      refine Kn_eq (by rw [x_wholeOf]) ?_
      exact Kn_c rfl (ih _ _ _)
    | 7 =>
      refine Kn_eq (by rw [x_wholeOf]) ?_
      exact Kn_ite (Kn_c rfl (ih _ _ _)) (Kn_ite (Kn_ite (Kn_c rfl (ih _ _ _)) (Kn_no _)) (Kn_no _))
    | 8 =>
      refine Kn_eq (by rw [x_wholeOf]) ?_
      exact Kn_c rfl (ih _ _ _)
    | 9 =>
      refine Kn_eq (by rw [x_wholeOf]) ?_
      exact Kn_ite (Kn_no _) (Kn_ite (Kn_c rfl (ih _ _ _)) (Kn_no _))
    | 10 =>
      refine Kn_eq (by rw [x_wholeOf]) ?_
      exact Kn_so rfl
    | b + 11 =>
      refine Kn_eq (by rw [x_wholeOf]) (Kn_no _)
theorem kn_literal : ∀ (k b : Nat) (L : Nat → Int32) (σ : MS), Kn (x_literal k b L σ) (kn σ) := by
  intro k
  induction k with
  | zero => intro b L σ; exact Kn_no _
  | succ k ih =>
    intro b L σ
    match b with
    | 0 =>
      refine Kn_eq (by rw [x_literal]) ?_
      exact Kn_c rfl (ih _ _ _)
    | 1 =>
      refine Kn_eq (by rw [x_literal]) ?_
      exact Kn_c rfl (ih _ _ _)
    | 2 =>
      refine Kn_eq (by rw [x_literal]) ?_
      exact Kn_ite (Kn_c rfl (ih _ _ _)) (Kn_ite (Kn_c rfl (ih _ _ _)) (Kn_no _))
    | 3 =>
      refine Kn_eq (by rw [x_literal]) ?_
      exact Kn_ite (Kn_c rfl (ih _ _ _)) (Kn_ite (Kn_ite (Kn_c rfl (ih _ _ _)) (Kn_no _)) (Kn_no _))
    | 4 =>
      refine Kn_eq (by rw [x_literal]) ?_
      exact Kn_c rfl (ih _ _ _)
    | 5 =>
      refine Kn_eq (by rw [x_literal]) ?_
      exact Kn_ite (Kn_c rfl (ih _ _ _)) (Kn_ite (Kn_c rfl (ih _ _ _)) (Kn_no _))
    | 6 =>
      refine Kn_eq (by rw [x_literal]) ?_
      exact Kn_c rfl (ih _ _ _)
    | 7 =>
      refine Kn_eq (by rw [x_literal]) ?_
      exact Kn_c rfl (ih _ _ _)
    | 8 =>
      refine Kn_eq (by rw [x_literal]) ?_
      exact Kn_ob (Kn_c rfl (kn_wholeOf _ _ _ _)) (fun _ h30 => Kn_so h30)
    | b + 9 =>
      refine Kn_eq (by rw [x_literal]) (Kn_no _)
theorem kn_size : ∀ (k b : Nat) (L : Nat → Int32) (σ : MS), Kn (x_size k b L σ) (kn σ) := by
  intro k
  induction k with
  | zero => intro b L σ; exact Kn_no _
  | succ k ih =>
    intro b L σ
    match b with
    | 0 =>
      refine Kn_eq (by rw [x_size]) ?_
      exact Kn_ite (Kn_c rfl (ih _ _ _)) (Kn_c rfl (ih _ _ _))
    | 1 =>
      refine Kn_eq (by rw [x_size]) ?_
      exact Kn_ite (Kn_c rfl (ih _ _ _)) (Kn_no _)
    | 2 =>
      refine Kn_eq (by rw [x_size]) ?_
      exact Kn_so rfl
    | b + 3 =>
      refine Kn_eq (by rw [x_size]) (Kn_no _)
theorem kn_worked : ∀ (k b : Nat) (L : Nat → Int32) (σ : MS), Kn (x_worked k b L σ) (kn σ) := by
  intro k
  induction k with
  | zero => intro b L σ; exact Kn_no _
  | succ k ih =>
    intro b L σ
    match b with
    | 0 =>
      refine Kn_eq (by rw [x_worked]) ?_
      exact Kn_c rfl (ih _ _ _)
    | 1 =>
      refine Kn_eq (by rw [x_worked]) ?_
      exact Kn_ite (Kn_c rfl (ih _ _ _)) (Kn_ob (Kn_c rfl (kn_fail _ _ _ _)) (fun _ h31 => Kn_c h31 (ih _ _ _)))
    | 2 =>
      refine Kn_eq (by rw [x_worked]) ?_
      exact Kn_so rfl
    | b + 3 =>
      refine Kn_eq (by rw [x_worked]) (Kn_no _)
theorem kn_answer : ∀ (k b : Nat) (L : Nat → Int32) (σ : MS), Kn (x_answer k b L σ) (kn σ) := by
  intro k
  induction k with
  | zero => intro b L σ; exact Kn_no _
  | succ k ih =>
    intro b L σ
    match b with
    | 0 =>
      refine Kn_eq (by rw [x_answer]) ?_
      exact Kn_ite (Kn_ob (Kn_c rfl (kn_size _ _ _ _)) (fun _ h32 => Kn_ob (Kn_c h32 (kn_worked _ _ _ _)) (fun _ h33 => Kn_c h33 (ih _ _ _)))) (Kn_c rfl (ih _ _ _))
    | 1 =>
      refine Kn_eq (by rw [x_answer]) ?_
      exact Kn_so rfl
    | b + 2 =>
      refine Kn_eq (by rw [x_answer]) (Kn_no _)
theorem kn_push : ∀ (k b : Nat) (L : Nat → Int32) (σ : MS), Kn (x_push k b L σ) (kn σ) := by
  intro k
  induction k with
  | zero => intro b L σ; exact Kn_no _
  | succ k ih =>
    intro b L σ
    match b with
    | 0 =>
      refine Kn_eq (by rw [x_push]) ?_
      exact Kn_ite (Kn_c rfl (ih _ _ _)) (Kn_no _)
    | 1 =>
      refine Kn_eq (by rw [x_push]) ?_
      exact Kn_so rfl
    | b + 2 =>
      refine Kn_eq (by rw [x_push]) (Kn_no _)
theorem kn_stringOf__12 : ∀ (k b : Nat) (L : Nat → Int32) (σ : MS), Kn (x_stringOf__12 k b L σ) (kn σ) := by
  intro k
  induction k with
  | zero => intro b L σ; exact Kn_no _
  | succ k ih =>
    intro b L σ
    match b with
    | 0 =>
      refine Kn_eq (by rw [x_stringOf__12]) ?_
      exact Kn_ite (Kn_no _) (Kn_ite (Kn_c rfl (ih _ _ _)) (Kn_ob (Kn_c rfl (kn_fail _ _ _ _)) (fun _ h34 => Kn_so h34)))
    | 1 =>
      refine Kn_eq (by rw [x_stringOf__12]) ?_
      exact Kn_ob (Kn_c rfl (kn_make _ _ _ _)) (fun _ h35 => Kn_c h35 (ih _ _ _))
    | 2 =>
      refine Kn_eq (by rw [x_stringOf__12]) ?_
      exact Kn_ite (Kn_c rfl (ih _ _ _)) (Kn_ite (Kn_ite (Kn_ite (Kn_c rfl (ih _ _ _)) (Kn_no _)) (Kn_no _)) (Kn_c rfl (ih _ _ _)))
    | 3 =>
      refine Kn_eq (by rw [x_stringOf__12]) ?_
      exact Kn_c rfl (ih _ _ _)
    | 4 =>
      refine Kn_eq (by rw [x_stringOf__12]) ?_
      exact Kn_ite (Kn_no _) (Kn_ite (Kn_c rfl (ih _ _ _)) (Kn_no _))
    | 5 =>
      refine Kn_eq (by rw [x_stringOf__12]) ?_
      exact Kn_so rfl
    | b + 6 =>
      refine Kn_eq (by rw [x_stringOf__12]) (Kn_no _)
theorem kn_newAtom : ∀ (k b : Nat) (L : Nat → Int32) (σ : MS), Kn (x_newAtom k b L σ) (kn σ) := by
  intro k
  induction k with
  | zero => intro b L σ; exact Kn_no _
  | succ k ih =>
    intro b L σ
    match b with
    | 0 =>
      refine Kn_eq (by rw [x_newAtom]) ?_
      exact Kn_ite (Kn_ob (Kn_c rfl (kn_fail _ _ _ _)) (fun _ h36 => Kn_so h36)) (Kn_c rfl (ih _ _ _))
    | 1 =>
      refine Kn_eq (by rw [x_newAtom]) ?_
      exact Kn_c rfl (ih _ _ _)
    | 2 =>
      refine Kn_eq (by rw [x_newAtom]) ?_
      exact Kn_ob (Kn_c rfl (kn_make _ _ _ _)) (fun _ h37 => Kn_ite (Kn_c h37 (ih _ _ _)) (Kn_so h37))
    | 3 =>
      refine Kn_eq (by rw [x_newAtom]) ?_
      exact Kn_ite (Kn_c rfl (ih _ _ _)) (Kn_no _)
    | 4 =>
      refine Kn_eq (by rw [x_newAtom]) ?_
      exact Kn_so rfl
    | b + 5 =>
      refine Kn_eq (by rw [x_newAtom]) (Kn_no _)
theorem kn_valueOf : ∀ (k b : Nat) (L : Nat → Int32) (σ : MS), Kn (x_valueOf k b L σ) (kn σ) := by
  intro k
  induction k with
  | zero => intro b L σ; exact Kn_no _
  | succ k ih =>
    intro b L σ
    match b with
    | 0 =>
      refine Kn_eq (by rw [x_valueOf]) ?_
      exact Kn_ite (Kn_ite (Kn_ite (Kn_ite (Kn_so rfl) (Kn_no _)) (Kn_no _)) (Kn_c rfl (ih _ _ _))) (Kn_no _)
    | 1 =>
      refine Kn_eq (by rw [x_valueOf]) ?_
      exact Kn_ite (Kn_c rfl (ih _ _ _)) (Kn_ite (Kn_ite (Kn_c rfl (ih _ _ _)) (Kn_no _)) (Kn_no _))
    | 2 =>
      refine Kn_eq (by rw [x_valueOf]) ?_
      exact Kn_ite (Kn_ite (Kn_ite (Kn_c rfl (ih _ _ _)) (Kn_no _)) (Kn_no _)) (Kn_no _)
    | 3 =>
      refine Kn_eq (by rw [x_valueOf]) ?_
      exact Kn_so rfl
    | b + 4 =>
      refine Kn_eq (by rw [x_valueOf]) (Kn_no _)
theorem kn_pop : ∀ (k b : Nat) (L : Nat → Int32) (σ : MS), Kn (x_pop k b L σ) (kn σ) := by
  intro k
  induction k with
  | zero => intro b L σ; exact Kn_no _
  | succ k ih =>
    intro b L σ
    match b with
    | 0 =>
      refine Kn_eq (by rw [x_pop]) ?_
      exact Kn_c rfl (ih _ _ _)
    | 1 =>
      refine Kn_eq (by rw [x_pop]) ?_
      exact Kn_ite (Kn_so rfl) (Kn_no _)
    | b + 2 =>
      refine Kn_eq (by rw [x_pop]) (Kn_no _)
theorem kn_kind : ∀ (k b : Nat) (L : Nat → Int32) (σ : MS), Kn (x_kind k b L σ) (kn σ) := by
  intro k
  induction k with
  | zero => intro b L σ; exact Kn_no _
  | succ k ih =>
    intro b L σ
    match b with
    | 0 =>
      refine Kn_eq (by rw [x_kind]) ?_
      exact Kn_ite (Kn_c rfl (ih _ _ _)) (Kn_c rfl (ih _ _ _))
    | 1 =>
      refine Kn_eq (by rw [x_kind]) ?_
      exact Kn_ite (Kn_c rfl (ih _ _ _)) (Kn_c rfl (ih _ _ _))
    | 2 =>
      refine Kn_eq (by rw [x_kind]) ?_
      exact Kn_ite (Kn_c rfl (ih _ _ _)) (Kn_no _)
    | 3 =>
      refine Kn_eq (by rw [x_kind]) ?_
      exact Kn_so rfl
    | b + 4 =>
      refine Kn_eq (by rw [x_kind]) (Kn_no _)
theorem kn_wrongKind : ∀ (k b : Nat) (L : Nat → Int32) (σ : MS), Kn (x_wrongKind k b L σ) (kn σ) := by
  intro k
  induction k with
  | zero => intro b L σ; exact Kn_no _
  | succ k ih =>
    intro b L σ
    match b with
    | 0 =>
      refine Kn_eq (by rw [x_wrongKind]) ?_
      exact Kn_ob (Kn_c rfl (kn_fail _ _ _ _)) (fun _ h38 => Kn_so h38)
    | b + 1 =>
      refine Kn_eq (by rw [x_wrongKind]) (Kn_no _)
theorem kn_signOf : ∀ (k b : Nat) (L : Nat → Int32) (σ : MS), Kn (x_signOf k b L σ) (kn σ) := by
  intro k
  induction k with
  | zero => intro b L σ; exact Kn_no _
  | succ k ih =>
    intro b L σ
    match b with
    | 0 =>
      refine Kn_eq (by rw [x_signOf]) ?_
      exact Kn_ite (Kn_so rfl) (Kn_no _)
    | b + 1 =>
      refine Kn_eq (by rw [x_signOf]) (Kn_no _)
theorem kn_loadA : ∀ (k b : Nat) (L : Nat → Int32) (σ : MS), Kn (x_loadA k b L σ) (kn σ) := by
  intro k
  induction k with
  | zero => intro b L σ; exact Kn_no _
  | succ k ih =>
    intro b L σ
    match b with
    | 0 =>
      refine Kn_eq (by rw [x_loadA]) ?_
      exact Kn_ite (Kn_c rfl (ih _ _ _)) (Kn_no _)
    | 1 =>
      refine Kn_eq (by rw [x_loadA]) ?_
      exact Kn_c rfl (ih _ _ _)
    | 2 =>
      refine Kn_eq (by rw [x_loadA]) ?_
      exact Kn_ite (Kn_c rfl (ih _ _ _)) (Kn_ite (Kn_ite (Kn_c rfl (ih _ _ _)) (Kn_no _)) (Kn_no _))
    | 3 =>
      refine Kn_eq (by rw [x_loadA]) ?_
      exact Kn_c rfl (ih _ _ _)
    | 4 =>
      refine Kn_eq (by rw [x_loadA]) ?_
      exact Kn_so rfl
    | b + 5 =>
      refine Kn_eq (by rw [x_loadA]) (Kn_no _)
theorem kn_other : ∀ (k b : Nat) (L : Nat → Int32) (σ : MS), Kn (x_other k b L σ) (kn σ) := by
  intro k
  induction k with
  | zero => intro b L σ; exact Kn_no _
  | succ k ih =>
    intro b L σ
    match b with
    | 0 =>
      refine Kn_eq (by rw [x_other]) ?_
      exact Kn_ob (Kn_c rfl (kn_loadA _ _ _ _)) (fun _ h39 => Kn_c h39 (ih _ _ _))
    | 1 =>
      refine Kn_eq (by rw [x_other]) ?_
      exact Kn_c rfl (ih _ _ _)
    | 2 =>
      refine Kn_eq (by rw [x_other]) ?_
      exact Kn_ite (Kn_c rfl (ih _ _ _)) (Kn_ite (Kn_ite (Kn_c rfl (ih _ _ _)) (Kn_no _)) (Kn_no _))
    | 3 =>
      refine Kn_eq (by rw [x_other]) ?_
      exact Kn_c rfl (ih _ _ _)
    | 4 =>
      refine Kn_eq (by rw [x_other]) ?_
      exact Kn_ob (Kn_c rfl (kn_signOf _ _ _ _)) (fun _ h40 => Kn_ob (Kn_c h40 (kn_wholeOf _ _ _ _)) (fun _ h41 => Kn_so h41))
    | b + 5 =>
      refine Kn_eq (by rw [x_other]) (Kn_no _)
theorem kn_isMap : ∀ (k b : Nat) (L : Nat → Int32) (σ : MS), Kn (x_isMap k b L σ) (kn σ) := by
  intro k
  induction k with
  | zero => intro b L σ; exact Kn_no _
  | succ k ih =>
    intro b L σ
    match b with
    | 0 =>
      refine Kn_eq (by rw [x_isMap]) ?_
      exact Kn_ob (Kn_c rfl (kn_kind _ _ _ _)) (fun _ h42 => Kn_ite (Kn_c h42 (ih _ _ _)) (Kn_c h42 (ih _ _ _)))
    | 1 =>
      refine Kn_eq (by rw [x_isMap]) ?_
      exact Kn_c rfl (ih _ _ _)
    | 2 =>
      refine Kn_eq (by rw [x_isMap]) ?_
      exact Kn_c rfl (ih _ _ _)
    | 3 =>
      refine Kn_eq (by rw [x_isMap]) ?_
      exact Kn_ite (Kn_c rfl (ih _ _ _)) (Kn_ite (Kn_ite (Kn_c rfl (ih _ _ _)) (Kn_ite (Kn_ob (Kn_c rfl (kn_kind _ _ _ _)) (fun _ h43 => Kn_ite (Kn_ite (Kn_ite (Kn_c h43 (ih _ _ _)) (Kn_c h43 (ih _ _ _))) (Kn_no _)) (Kn_c h43 (ih _ _ _)))) (Kn_no _))) (Kn_no _))
    | 4 =>
      refine Kn_eq (by rw [x_isMap]) ?_
      exact Kn_c rfl (ih _ _ _)
    | 5 =>
      refine Kn_eq (by rw [x_isMap]) ?_
      exact Kn_c rfl (ih _ _ _)
    | 6 =>
      refine Kn_eq (by rw [x_isMap]) ?_
      exact Kn_ite (Kn_so rfl) (Kn_no _)
    | b + 7 =>
      refine Kn_eq (by rw [x_isMap]) (Kn_no _)
theorem kn_rank : ∀ (k b : Nat) (L : Nat → Int32) (σ : MS), Kn (x_rank k b L σ) (kn σ) := by
  intro k
  induction k with
  | zero => intro b L σ; exact Kn_no _
  | succ k ih =>
    intro b L σ
    match b with
    | 0 =>
      refine Kn_eq (by rw [x_rank]) ?_
      exact Kn_ite (Kn_c rfl (ih _ _ _)) (Kn_c rfl (ih _ _ _))
    | 1 =>
      refine Kn_eq (by rw [x_rank]) ?_
      exact Kn_ite (Kn_c rfl (ih _ _ _)) (Kn_no _)
    | 2 =>
      refine Kn_eq (by rw [x_rank]) ?_
      exact Kn_so rfl
    | b + 3 =>
      refine Kn_eq (by rw [x_rank]) (Kn_no _)
theorem kn_compareWholes : ∀ (k b : Nat) (L : Nat → Int32) (σ : MS), Kn (x_compareWholes k b L σ) (kn σ) := by
  intro k
  induction k with
  | zero => intro b L σ; exact Kn_no _
  | succ k ih =>
    intro b L σ
    match b with
    | 0 =>
      refine Kn_eq (by rw [x_compareWholes]) ?_
      exact Kn_ob (Kn_c rfl (kn_signOf _ _ _ _)) (fun _ h44 => Kn_ob (Kn_c h44 (kn_signOf _ _ _ _)) (fun _ h45 => Kn_ite (Kn_c h45 (ih _ _ _)) (Kn_ob (Kn_c h45 (kn_signOf _ _ _ _)) (fun _ h46 => Kn_ob (Kn_c h46 (kn_signOf _ _ _ _)) (fun _ h47 => Kn_so h47)))))
    | 1 =>
      refine Kn_eq (by rw [x_compareWholes]) ?_
      exact Kn_ite (Kn_ite (Kn_c rfl (ih _ _ _)) (Kn_no _)) (Kn_no _)
    | 2 =>
      refine Kn_eq (by rw [x_compareWholes]) ?_
      exact Kn_ite (Kn_c rfl (ih _ _ _)) (Kn_ite (Kn_ite (Kn_ite (Kn_c rfl (ih _ _ _)) (Kn_no _)) (Kn_no _)) (Kn_c rfl (ih _ _ _)))
    | 3 =>
      refine Kn_eq (by rw [x_compareWholes]) ?_
      exact Kn_ob (Kn_c rfl (kn_signOf _ _ _ _)) (fun _ h48 => Kn_ite (Kn_c h48 (ih _ _ _)) (Kn_c h48 (ih _ _ _)))
    | 4 =>
      refine Kn_eq (by rw [x_compareWholes]) ?_
      exact Kn_c rfl (ih _ _ _)
    | 5 =>
      refine Kn_eq (by rw [x_compareWholes]) ?_
      exact Kn_so rfl
    | b + 6 =>
      refine Kn_eq (by rw [x_compareWholes]) (Kn_no _)
theorem kn_s_compare {X : Nat → Nat → Nat → (Nat → Int32) → MS → Option (Int32 × MS)} (hX : ∀ e m b L (σ : MS), Kn (X e m b L σ) (kn σ)) (k d b : Nat) (L : Nat → Int32) (σ : MS) : Kn (s_compare X k d b L σ) (kn σ) := by
  match b with
  | 0 => exact Kn_ite (Kn_so rfl) (Kn_c rfl (hX _ _ _ _ _))
  | 1 => exact Kn_ob (Kn_c rfl (kn_rank _ _ _ _)) (fun _ h49 => Kn_ob (Kn_c h49 (kn_rank _ _ _ _)) (fun _ h50 => Kn_ite (Kn_c h50 (hX _ _ _ _ _)) (Kn_so h50)))
  | 2 => exact Kn_ite (Kn_ite (Kn_ob (Kn_c rfl (kn_compareWholes _ _ _ _)) (fun _ h51 => Kn_so h51)) (Kn_c rfl (hX _ _ _ _ _))) (Kn_no _)
  | 3 => exact Kn_ite (Kn_ite (Kn_c rfl (hX _ _ _ _ _)) (Kn_no _)) (Kn_no _)
  | 4 => exact Kn_ite (Kn_c rfl (hX _ _ _ _ _)) (Kn_ite (Kn_c rfl (hX _ _ _ _ _)) (Kn_ite (Kn_c rfl (hX _ _ _ _ _)) (Kn_ite (Kn_c rfl (hX _ _ _ _ _)) (Kn_c rfl (hX _ _ _ _ _)))))
  | 5 => exact Kn_ite (Kn_ite (Kn_od (fun _ => Kn_ob (Kn_c rfl (hX _ _ _ _ _)) (fun _ h52 => Kn_c h52 (hX _ _ _ _ _)))) (Kn_no _)) (Kn_no _)
  | 6 => exact Kn_ite (Kn_ite (Kn_c rfl (hX _ _ _ _ _)) (Kn_no _)) (Kn_no _)
  | 7 => exact Kn_ite (Kn_c rfl (hX _ _ _ _ _)) (Kn_so rfl)
  | 8 => exact Kn_c rfl (hX _ _ _ _ _)
  | 9 => exact Kn_so rfl
  | b + 10 => exact Kn_no _
theorem kn_GC : ∀ (k d m b : Nat) (L : Nat → Int32) (σ : MS), Kn (x_GC k d m b L σ) (kn σ) := by
  intro k
  induction k with
  | zero => intro d m b L σ; exact Kn_no _
  | succ k ih =>
    intro d m b L σ
    match m with
    | 0 => exact kn_s_compare ih k d b L σ
    | m + 1 => exact Kn_no _
theorem kn_compare (k b : Nat) (L : Nat → Int32) (σ : MS) : Kn (x_compare k b L σ) (kn σ) := kn_GC k 40 0 b L σ
theorem kn_merge : ∀ (k b : Nat) (L : Nat → Int32) (σ : MS), Kn (x_merge k b L σ) (kn σ) := by
  intro k
  induction k with
  | zero => intro b L σ; exact Kn_no _
  | succ k ih =>
    intro b L σ
    match b with
    | 0 =>
      refine Kn_eq (by rw [x_merge]) ?_
      exact Kn_c rfl (ih _ _ _)
    | 1 =>
      refine Kn_eq (by rw [x_merge]) ?_
      exact Kn_ite (Kn_c rfl (ih _ _ _)) (Kn_ite (Kn_c rfl (ih _ _ _)) (Kn_ite (Kn_c rfl (ih _ _ _)) (Kn_ite (Kn_ite (Kn_ob (Kn_c rfl (kn_compare _ _ _ _)) (fun _ h53 => Kn_ite (Kn_c h53 (ih _ _ _)) (Kn_c h53 (ih _ _ _)))) (Kn_no _)) (Kn_no _))))
    | 2 =>
      refine Kn_eq (by rw [x_merge]) ?_
      exact Kn_c rfl (ih _ _ _)
    | 3 =>
      refine Kn_eq (by rw [x_merge]) ?_
      exact Kn_c rfl (ih _ _ _)
    | 4 =>
      refine Kn_eq (by rw [x_merge]) ?_
      exact Kn_ite (Kn_c rfl (ih _ _ _)) (Kn_ite (Kn_c rfl (ih _ _ _)) (Kn_no _))
    | 5 =>
      refine Kn_eq (by rw [x_merge]) ?_
      exact Kn_ite (Kn_c rfl (ih _ _ _)) (Kn_no _)
    | 6 =>
      refine Kn_eq (by rw [x_merge]) ?_
      exact Kn_ite (Kn_c rfl (ih _ _ _)) (Kn_no _)
    | 7 =>
      refine Kn_eq (by rw [x_merge]) ?_
      exact Kn_ite (Kn_c rfl (ih _ _ _)) (Kn_c rfl (ih _ _ _))
    | 8 =>
      refine Kn_eq (by rw [x_merge]) ?_
      exact Kn_c rfl (ih _ _ _)
    | 9 =>
      refine Kn_eq (by rw [x_merge]) ?_
      exact Kn_ite (Kn_c rfl (ih _ _ _)) (Kn_c rfl (ih _ _ _))
    | 10 =>
      refine Kn_eq (by rw [x_merge]) ?_
      exact Kn_c rfl (ih _ _ _)
    | 11 =>
      refine Kn_eq (by rw [x_merge]) ?_
      exact Kn_c rfl (ih _ _ _)
    | 12 =>
      refine Kn_eq (by rw [x_merge]) ?_
      exact Kn_so rfl
    | b + 13 =>
      refine Kn_eq (by rw [x_merge]) (Kn_no _)
theorem kn_distinct : ∀ (k b : Nat) (L : Nat → Int32) (σ : MS), Kn (x_distinct k b L σ) (kn σ) := by
  intro k
  induction k with
  | zero => intro b L σ; exact Kn_no _
  | succ k ih =>
    intro b L σ
    match b with
    | 0 =>
      refine Kn_eq (by rw [x_distinct]) ?_
      exact Kn_c rfl (ih _ _ _)
    | 1 =>
      refine Kn_eq (by rw [x_distinct]) ?_
      exact Kn_ite (Kn_c rfl (ih _ _ _)) (Kn_c rfl (ih _ _ _))
    | 2 =>
      refine Kn_eq (by rw [x_distinct]) ?_
      exact Kn_ite (Kn_c rfl (ih _ _ _)) (Kn_ite (Kn_c rfl (ih _ _ _)) (Kn_c rfl (ih _ _ _)))
    | 3 =>
      refine Kn_eq (by rw [x_distinct]) ?_
      exact Kn_c rfl (ih _ _ _)
    | 4 =>
      refine Kn_eq (by rw [x_distinct]) ?_
      exact Kn_ite (Kn_c rfl (ih _ _ _)) (Kn_c rfl (ih _ _ _))
    | 5 =>
      refine Kn_eq (by rw [x_distinct]) ?_
      exact Kn_c rfl (ih _ _ _)
    | 6 =>
      refine Kn_eq (by rw [x_distinct]) ?_
      exact Kn_ob (Kn_c rfl (kn_merge _ _ _ _)) (fun _ h54 => Kn_c h54 (ih _ _ _))
    | 7 =>
      refine Kn_eq (by rw [x_distinct]) ?_
      exact Kn_c rfl (ih _ _ _)
    | 8 =>
      refine Kn_eq (by rw [x_distinct]) ?_
      exact Kn_ite (Kn_c rfl (ih _ _ _)) (Kn_ite (Kn_ite (Kn_c rfl (ih _ _ _)) (Kn_no _)) (Kn_no _))
    | 9 =>
      refine Kn_eq (by rw [x_distinct]) ?_
      exact Kn_c rfl (ih _ _ _)
    | 10 =>
      refine Kn_eq (by rw [x_distinct]) ?_
      exact Kn_c rfl (ih _ _ _)
    | 11 =>
      refine Kn_eq (by rw [x_distinct]) ?_
      exact Kn_c rfl (ih _ _ _)
    | 12 =>
      refine Kn_eq (by rw [x_distinct]) ?_
      exact Kn_ite (Kn_c rfl (ih _ _ _)) (Kn_ite (Kn_c rfl (ih _ _ _)) (Kn_ite (Kn_ite (Kn_ob (Kn_c rfl (kn_compare _ _ _ _)) (fun _ h55 => Kn_ite (Kn_c h55 (ih _ _ _)) (Kn_c h55 (ih _ _ _)))) (Kn_no _)) (Kn_no _)))
    | 13 =>
      refine Kn_eq (by rw [x_distinct]) ?_
      exact Kn_ite (Kn_ite (Kn_c rfl (ih _ _ _)) (Kn_no _)) (Kn_no _)
    | 14 =>
      refine Kn_eq (by rw [x_distinct]) ?_
      exact Kn_c rfl (ih _ _ _)
    | 15 =>
      refine Kn_eq (by rw [x_distinct]) ?_
      exact Kn_c rfl (ih _ _ _)
    | 16 =>
      refine Kn_eq (by rw [x_distinct]) ?_
      exact Kn_so rfl
    | b + 17 =>
      refine Kn_eq (by rw [x_distinct]) (Kn_no _)
theorem kn_height : ∀ (k b : Nat) (L : Nat → Int32) (σ : MS), Kn (x_height k b L σ) (kn σ) := by
  intro k
  induction k with
  | zero => intro b L σ; exact Kn_no _
  | succ k ih =>
    intro b L σ
    match b with
    | 0 =>
      refine Kn_eq (by rw [x_height]) ?_
      exact Kn_ite (Kn_c rfl (ih _ _ _)) (Kn_c rfl (ih _ _ _))
    | 1 =>
      refine Kn_eq (by rw [x_height]) ?_
      exact Kn_ite (Kn_c rfl (ih _ _ _)) (Kn_no _)
    | 2 =>
      refine Kn_eq (by rw [x_height]) ?_
      exact Kn_so rfl
    | b + 3 =>
      refine Kn_eq (by rw [x_height]) (Kn_no _)
theorem kn_checked : ∀ (k b : Nat) (L : Nat → Int32) (σ : MS), Kn (x_checked k b L σ) (kn σ) := by
  intro k
  induction k with
  | zero => intro b L σ; exact Kn_no _
  | succ k ih =>
    intro b L σ
    match b with
    | 0 =>
      refine Kn_eq (by rw [x_checked]) ?_
      exact Kn_ite (Kn_ite (Kn_ite (Kn_c rfl (ih _ _ _)) (Kn_ite (Kn_ite (Kn_c rfl (ih _ _ _)) (Kn_c rfl (ih _ _ _))) (Kn_no _))) (Kn_no _)) (Kn_c rfl (ih _ _ _))
    | 1 =>
      refine Kn_eq (by rw [x_checked]) ?_
      exact Kn_ob (Kn_c rfl (kn_fail _ _ _ _)) (fun _ h56 => Kn_c h56 (ih _ _ _))
    | 2 =>
      refine Kn_eq (by rw [x_checked]) ?_
      exact Kn_ite (Kn_c rfl (ih _ _ _)) (Kn_c rfl (ih _ _ _))
    | 3 =>
      refine Kn_eq (by rw [x_checked]) ?_
      exact Kn_c rfl (ih _ _ _)
    | 4 =>
      refine Kn_eq (by rw [x_checked]) ?_
      exact Kn_so rfl
    | b + 5 =>
      refine Kn_eq (by rw [x_checked]) (Kn_no _)
theorem kn_measured : ∀ (k b : Nat) (L : Nat → Int32) (σ : MS), Kn (x_measured k b L σ) (kn σ) := by
  intro k
  induction k with
  | zero => intro b L σ; exact Kn_no _
  | succ k ih =>
    intro b L σ
    match b with
    | 0 =>
      refine Kn_eq (by rw [x_measured]) ?_
      exact Kn_ite (Kn_c rfl (ih _ _ _)) (Kn_no _)
    | 1 =>
      refine Kn_eq (by rw [x_measured]) ?_
      exact Kn_ite (Kn_c rfl (ih _ _ _)) (Kn_ite (Kn_ob (Kn_c rfl (kn_size _ _ _ _)) (fun _ h57 => Kn_ob (Kn_c h57 (kn_height _ _ _ _)) (fun _ h58 => Kn_ite (Kn_c h58 (ih _ _ _)) (Kn_ob (Kn_c h58 (kn_height _ _ _ _)) (fun _ h59 => Kn_c h59 (ih _ _ _)))))) (Kn_no _))
    | 2 =>
      refine Kn_eq (by rw [x_measured]) ?_
      exact Kn_c rfl (ih _ _ _)
    | 3 =>
      refine Kn_eq (by rw [x_measured]) ?_
      exact Kn_c rfl (ih _ _ _)
    | 4 =>
      refine Kn_eq (by rw [x_measured]) ?_
      exact Kn_ite (Kn_c rfl (ih _ _ _)) (Kn_no _)
    | 5 =>
      refine Kn_eq (by rw [x_measured]) ?_
      exact Kn_ite (Kn_c rfl (ih _ _ _)) (Kn_no _)
    | 6 =>
      refine Kn_eq (by rw [x_measured]) ?_
      exact Kn_ob (Kn_c rfl (kn_checked _ _ _ _)) (fun _ h60 => Kn_so h60)
    | b + 7 =>
      refine Kn_eq (by rw [x_measured]) (Kn_no _)
theorem kn_setOf : ∀ (k b : Nat) (L : Nat → Int32) (σ : MS), Kn (x_setOf k b L σ) (kn σ) := by
  intro k
  induction k with
  | zero => intro b L σ; exact Kn_no _
  | succ k ih =>
    intro b L σ
    match b with
    | 0 =>
      refine Kn_eq (by rw [x_setOf]) ?_
      exact Kn_ob (Kn_c rfl (kn_distinct _ _ _ _)) (fun _ h61 => Kn_c h61 (ih _ _ _))
    | 1 =>
      refine Kn_eq (by rw [x_setOf]) ?_
      exact Kn_ob (Kn_c rfl (kn_make _ _ _ _)) (fun _ h62 => Kn_ite (Kn_c h62 (ih _ _ _)) (Kn_so h62))
    | 2 =>
      refine Kn_eq (by rw [x_setOf]) ?_
      exact Kn_c rfl (ih _ _ _)
    | 3 =>
      refine Kn_eq (by rw [x_setOf]) ?_
      exact Kn_ite (Kn_c rfl (ih _ _ _)) (Kn_ite (Kn_ite (Kn_c rfl (ih _ _ _)) (Kn_no _)) (Kn_no _))
    | 4 =>
      refine Kn_eq (by rw [x_setOf]) ?_
      exact Kn_c rfl (ih _ _ _)
    | 5 =>
      refine Kn_eq (by rw [x_setOf]) ?_
      exact Kn_ob (Kn_c rfl (kn_measured _ _ _ _)) (fun _ h63 => Kn_so h63)
    | b + 6 =>
      refine Kn_eq (by rw [x_setOf]) (Kn_no _)
theorem kn_side : ∀ (k b : Nat) (L : Nat → Int32) (σ : MS), Kn (x_side k b L σ) (kn σ) := by
  intro k
  induction k with
  | zero => intro b L σ; exact Kn_no _
  | succ k ih =>
    intro b L σ
    match b with
    | 0 =>
      refine Kn_eq (by rw [x_side]) ?_
      exact Kn_ob (Kn_c rfl (kn_isMap _ _ _ _)) (fun _ h64 => Kn_ite (Kn_ob (Kn_c h64 (kn_wrongKind _ _ _ _)) (fun _ h65 => Kn_so h65)) (Kn_c h64 (ih _ _ _)))
    | 1 =>
      refine Kn_eq (by rw [x_side]) ?_
      exact Kn_c rfl (ih _ _ _)
    | 2 =>
      refine Kn_eq (by rw [x_side]) ?_
      exact Kn_ite (Kn_ite (Kn_c rfl (ih _ _ _)) (Kn_ite (Kn_ite (Kn_ob (Kn_c rfl (kn_push _ _ _ _)) (fun _ h66 => Kn_c h66 (ih _ _ _))) (Kn_no _)) (Kn_no _))) (Kn_no _)
    | 3 =>
      refine Kn_eq (by rw [x_side]) ?_
      exact Kn_c rfl (ih _ _ _)
    | 4 =>
      refine Kn_eq (by rw [x_side]) ?_
      exact Kn_ite (Kn_c rfl (ih _ _ _)) (Kn_ite (Kn_ite (Kn_ite (Kn_c rfl (ih _ _ _)) (Kn_c rfl (ih _ _ _))) (Kn_no _)) (Kn_c rfl (ih _ _ _)))
    | 5 =>
      refine Kn_eq (by rw [x_side]) ?_
      exact Kn_c rfl (ih _ _ _)
    | 6 =>
      refine Kn_eq (by rw [x_side]) ?_
      exact Kn_c rfl (ih _ _ _)
    | 7 =>
      refine Kn_eq (by rw [x_side]) ?_
      exact Kn_c rfl (ih _ _ _)
    | 8 =>
      refine Kn_eq (by rw [x_side]) ?_
      exact Kn_ite (Kn_c rfl (ih _ _ _)) (Kn_c rfl (ih _ _ _))
    | 9 =>
      refine Kn_eq (by rw [x_side]) ?_
      exact Kn_ob (Kn_c rfl (kn_fail _ _ _ _)) (fun _ h67 => Kn_so h67)
    | 10 =>
      refine Kn_eq (by rw [x_side]) ?_
      exact Kn_ob (Kn_c rfl (kn_setOf _ _ _ _)) (fun _ h68 => Kn_so h68)
    | b + 11 =>
      refine Kn_eq (by rw [x_side]) (Kn_no _)
theorem kn_powerSet : ∀ (k b : Nat) (L : Nat → Int32) (σ : MS), Kn (x_powerSet k b L σ) (kn σ) := by
  intro k
  induction k with
  | zero => intro b L σ; exact Kn_no _
  | succ k ih =>
    intro b L σ
    match b with
    | 0 =>
      refine Kn_eq (by rw [x_powerSet]) ?_
      exact Kn_ob (Kn_c rfl (kn_kind _ _ _ _)) (fun _ h69 => Kn_ite (Kn_c h69 (ih _ _ _)) (Kn_ob (Kn_c h69 (kn_wrongKind _ _ _ _)) (fun _ h70 => Kn_so h70)))
    | 1 =>
      refine Kn_eq (by rw [x_powerSet]) ?_
      exact Kn_ite (Kn_ite (Kn_c rfl (ih _ _ _)) (Kn_ob (Kn_c rfl (kn_fail _ _ _ _)) (fun _ h71 => Kn_so h71))) (Kn_no _)
    | 2 =>
      refine Kn_eq (by rw [x_powerSet]) ?_
      exact Kn_c rfl (ih _ _ _)
    | 3 =>
      refine Kn_eq (by rw [x_powerSet]) ?_
      exact Kn_ite (Kn_c rfl (ih _ _ _)) (Kn_ite (Kn_c rfl (ih _ _ _)) (Kn_c rfl (ih _ _ _)))
    | 4 =>
      refine Kn_eq (by rw [x_powerSet]) ?_
      exact Kn_ite (Kn_c rfl (ih _ _ _)) (Kn_ite (Kn_ite (Kn_ob (Kn_c rfl (kn_push _ _ _ _)) (fun _ h72 => Kn_c h72 (ih _ _ _))) (Kn_no _)) (Kn_c rfl (ih _ _ _)))
    | 5 =>
      refine Kn_eq (by rw [x_powerSet]) ?_
      exact Kn_c rfl (ih _ _ _)
    | 6 =>
      refine Kn_eq (by rw [x_powerSet]) ?_
      exact Kn_ob (Kn_c rfl (kn_setOf _ _ _ _)) (fun _ h73 => Kn_ob (Kn_c h73 (kn_push _ _ _ _)) (fun _ h74 => Kn_c h74 (ih _ _ _)))
    | 7 =>
      refine Kn_eq (by rw [x_powerSet]) ?_
      exact Kn_ite (Kn_ob (Kn_c rfl (kn_setOf _ _ _ _)) (fun _ h75 => Kn_c h75 (ih _ _ _))) (Kn_c rfl (ih _ _ _))
    | 8 =>
      refine Kn_eq (by rw [x_powerSet]) ?_
      exact Kn_c rfl (ih _ _ _)
    | 9 =>
      refine Kn_eq (by rw [x_powerSet]) ?_
      exact Kn_so rfl
    | b + 10 =>
      refine Kn_eq (by rw [x_powerSet]) (Kn_no _)
theorem kn_put : ∀ (k b : Nat) (L : Nat → Int32) (σ : MS), Kn (x_put k b L σ) (kn σ) := by
  intro k
  induction k with
  | zero => intro b L σ; exact Kn_no _
  | succ k ih =>
    intro b L σ
    match b with
    | 0 =>
      refine Kn_eq (by rw [x_put]) ?_
      exact Kn_ite (Kn_c rfl (ih _ _ _)) (Kn_no _)
    | 1 =>
      refine Kn_eq (by rw [x_put]) ?_
      exact Kn_so rfl
    | b + 2 =>
      refine Kn_eq (by rw [x_put]) (Kn_no _)
theorem kn_putWord : ∀ (k b : Nat) (L : Nat → Int32) (σ : MS), Kn (x_putWord k b L σ) (kn σ) := by
  intro k
  induction k with
  | zero => intro b L σ; exact Kn_no _
  | succ k ih =>
    intro b L σ
    match b with
    | 0 =>
      refine Kn_eq (by rw [x_putWord]) ?_
      exact Kn_c rfl (ih _ _ _)
    | 1 =>
      refine Kn_eq (by rw [x_putWord]) ?_
      exact Kn_ite (Kn_c rfl (ih _ _ _)) (Kn_ite (Kn_ite (Kn_c rfl (ih _ _ _)) (Kn_c rfl (ih _ _ _))) (Kn_no _))
    | 2 =>
      refine Kn_eq (by rw [x_putWord]) ?_
      exact Kn_c rfl (ih _ _ _)
    | 3 =>
      refine Kn_eq (by rw [x_putWord]) ?_
      exact Kn_c rfl (ih _ _ _)
    | 4 =>
      refine Kn_eq (by rw [x_putWord]) ?_
      exact Kn_ite (Kn_ite (Kn_c rfl (ih _ _ _)) (Kn_ite (Kn_ob (Kn_c rfl (kn_put _ _ _ _)) (fun _ h76 => Kn_c h76 (ih _ _ _))) (Kn_no _))) (Kn_no _)
    | 5 =>
      refine Kn_eq (by rw [x_putWord]) ?_
      exact Kn_so rfl
    | b + 6 =>
      refine Kn_eq (by rw [x_putWord]) (Kn_no _)
theorem kn_stringOf__48 : ∀ (k b : Nat) (L : Nat → Int32) (σ : MS), Kn (x_stringOf__48 k b L σ) (kn σ) := by
  intro k
  induction k with
  | zero => intro b L σ; exact Kn_no _
  | succ k ih =>
    intro b L σ
    match b with
    | 0 =>
      refine Kn_eq (by rw [x_stringOf__48]) ?_
      exact Kn_ite (Kn_no _) (Kn_ite (Kn_c rfl (ih _ _ _)) (Kn_ob (Kn_c rfl (kn_fail _ _ _ _)) (fun _ h77 => Kn_so h77)))
    | 1 =>
      refine Kn_eq (by rw [x_stringOf__48]) ?_
      exact Kn_ob (Kn_c rfl (kn_make _ _ _ _)) (fun _ h78 => Kn_c h78 (ih _ _ _))
    | 2 =>
      refine Kn_eq (by rw [x_stringOf__48]) ?_
      exact Kn_ite (Kn_c rfl (ih _ _ _)) (Kn_ite (Kn_ite (Kn_ite (Kn_c rfl (ih _ _ _)) (Kn_no _)) (Kn_no _)) (Kn_c rfl (ih _ _ _)))
    | 3 =>
      refine Kn_eq (by rw [x_stringOf__48]) ?_
      exact Kn_c rfl (ih _ _ _)
    | 4 =>
      refine Kn_eq (by rw [x_stringOf__48]) ?_
      exact Kn_ite (Kn_no _) (Kn_ite (Kn_c rfl (ih _ _ _)) (Kn_no _))
    | 5 =>
      refine Kn_eq (by rw [x_stringOf__48]) ?_
      exact Kn_so rfl
    | b + 6 =>
      refine Kn_eq (by rw [x_stringOf__48]) (Kn_no _)
theorem kn_typeOf : ∀ (k b : Nat) (L : Nat → Int32) (σ : MS), Kn (x_typeOf k b L σ) (kn σ) := by
  intro k
  induction k with
  | zero => intro b L σ; exact Kn_no _
  | succ k ih =>
    intro b L σ
    match b with
    | 0 =>
      refine Kn_eq (by rw [x_typeOf]) ?_
      exact Kn_c rfl (ih _ _ _)
    | 1 =>
      refine Kn_eq (by rw [x_typeOf]) ?_
      exact Kn_ob (Kn_c rfl (kn_kind _ _ _ _)) (fun _ h79 => Kn_ob (Kn_c h79 (kn_putWord _ _ _ _)) (fun _ h80 => Kn_ob (Kn_c h80 (kn_stringOf__48 _ _ _ _)) (fun _ h81 => Kn_so h81)))
    | b + 2 =>
      refine Kn_eq (by rw [x_typeOf]) (Kn_no _)
theorem kn_putTruth : ∀ (k b : Nat) (L : Nat → Int32) (σ : MS), Kn (x_putTruth k b L σ) (kn σ) := by
  intro k
  induction k with
  | zero => intro b L σ; exact Kn_no _
  | succ k ih =>
    intro b L σ
    match b with
    | 0 =>
      refine Kn_eq (by rw [x_putTruth]) ?_
      exact Kn_ite (Kn_c rfl (ih _ _ _)) (Kn_c rfl (ih _ _ _))
    | 1 =>
      refine Kn_eq (by rw [x_putTruth]) ?_
      exact Kn_c rfl (ih _ _ _)
    | 2 =>
      refine Kn_eq (by rw [x_putTruth]) ?_
      exact Kn_ob (Kn_c rfl (kn_put _ _ _ _)) (fun _ h82 => Kn_ite (Kn_c h82 (ih _ _ _)) (Kn_c h82 (ih _ _ _)))
    | 3 =>
      refine Kn_eq (by rw [x_putTruth]) ?_
      exact Kn_c rfl (ih _ _ _)
    | 4 =>
      refine Kn_eq (by rw [x_putTruth]) ?_
      exact Kn_ob (Kn_c rfl (kn_put _ _ _ _)) (fun _ h83 => Kn_ite (Kn_c h83 (ih _ _ _)) (Kn_c h83 (ih _ _ _)))
    | 5 =>
      refine Kn_eq (by rw [x_putTruth]) ?_
      exact Kn_c rfl (ih _ _ _)
    | 6 =>
      refine Kn_eq (by rw [x_putTruth]) ?_
      exact Kn_ob (Kn_c rfl (kn_put _ _ _ _)) (fun _ h84 => Kn_ite (Kn_c h84 (ih _ _ _)) (Kn_c h84 (ih _ _ _)))
    | 7 =>
      refine Kn_eq (by rw [x_putTruth]) ?_
      exact Kn_c rfl (ih _ _ _)
    | 8 =>
      refine Kn_eq (by rw [x_putTruth]) ?_
      exact Kn_ob (Kn_c rfl (kn_put _ _ _ _)) (fun _ h85 => Kn_ite (Kn_ob (Kn_c h85 (kn_put _ _ _ _)) (fun _ h86 => Kn_c h86 (ih _ _ _))) (Kn_c h85 (ih _ _ _)))
    | 9 =>
      refine Kn_eq (by rw [x_putTruth]) ?_
      exact Kn_so rfl
    | b + 10 =>
      refine Kn_eq (by rw [x_putTruth]) (Kn_no _)
theorem kn_putWhole : ∀ (k b : Nat) (L : Nat → Int32) (σ : MS), Kn (x_putWhole k b L σ) (kn σ) := by
  intro k
  induction k with
  | zero => intro b L σ; exact Kn_no _
  | succ k ih =>
    intro b L σ
    match b with
    | 0 =>
      refine Kn_eq (by rw [x_putWhole]) ?_
      exact Kn_ob (Kn_c rfl (kn_loadA _ _ _ _)) (fun _ h87 => Kn_ite (Kn_ite (Kn_c h87 (ih _ _ _)) (Kn_no _)) (Kn_c h87 (ih _ _ _)))
    | 1 =>
      refine Kn_eq (by rw [x_putWhole]) ?_
      exact Kn_c rfl (ih _ _ _)
    | 2 =>
      refine Kn_eq (by rw [x_putWhole]) ?_
      exact Kn_ite (Kn_c rfl (ih _ _ _)) (Kn_c rfl (ih _ _ _))
    | 3 =>
      refine Kn_eq (by rw [x_putWhole]) ?_
      exact Kn_ite (Kn_c rfl (ih _ _ _)) (Kn_ite (Kn_ite (Kn_no _) (Kn_ite (Kn_c rfl (ih _ _ _)) (Kn_no _))) (Kn_no _))
    | 4 =>
      refine Kn_eq (by rw [x_putWhole]) ?_
      exact Kn_ite (Kn_no _) (Kn_c rfl (ih _ _ _))
    | 5 =>
      refine Kn_eq (by rw [x_putWhole]) ?_
      exact Kn_ite (Kn_c rfl (ih _ _ _)) (Kn_no _)
    | 6 =>
      refine Kn_eq (by rw [x_putWhole]) ?_
      exact Kn_c rfl (ih _ _ _)
    | 7 =>
      refine Kn_eq (by rw [x_putWhole]) ?_
      exact Kn_ite (Kn_c rfl (ih _ _ _)) (Kn_ite (Kn_ite (Kn_c rfl (ih _ _ _)) (Kn_c rfl (ih _ _ _))) (Kn_no _))
    | 8 =>
      refine Kn_eq (by rw [x_putWhole]) ?_
      exact Kn_c rfl (ih _ _ _)
    | 9 =>
      refine Kn_eq (by rw [x_putWhole]) ?_
      exact Kn_ob (Kn_c rfl (kn_signOf _ _ _ _)) (fun _ h88 => Kn_ite (Kn_c h88 (ih _ _ _)) (Kn_ob (Kn_c h88 (kn_put _ _ _ _)) (fun _ h89 => Kn_c h89 (ih _ _ _))))
    | 10 =>
      refine Kn_eq (by rw [x_putWhole]) ?_
      exact Kn_c rfl (ih _ _ _)
    | 11 =>
      refine Kn_eq (by rw [x_putWhole]) ?_
      exact Kn_ite (Kn_c rfl (ih _ _ _)) (Kn_ite (Kn_ob (Kn_c rfl (kn_put _ _ _ _)) (fun _ h90 => Kn_c h90 (ih _ _ _))) (Kn_no _))
    | 12 =>
      refine Kn_eq (by rw [x_putWhole]) ?_
      exact Kn_so rfl
    | b + 13 =>
      refine Kn_eq (by rw [x_putWhole]) (Kn_no _)
theorem kn_s_putNumber {X : Nat → Nat → Nat → (Nat → Int32) → MS → Option (Int32 × MS)} (hX : ∀ e m b L (σ : MS), Kn (X e m b L σ) (kn σ)) (k d b : Nat) (L : Nat → Int32) (σ : MS) : Kn (s_putNumber X k d b L σ) (kn σ) := by
  match b with
  | 0 => exact Kn_ite (Kn_c rfl (hX _ _ _ _ _)) (Kn_od (fun _ => Kn_ob (Kn_c rfl (hX _ _ _ _ _)) (fun _ h91 => Kn_c h91 (hX _ _ _ _ _))))
  | 1 => exact Kn_ob (Kn_c rfl (kn_put _ _ _ _)) (fun _ h92 => Kn_so h92)
  | b + 2 => exact Kn_no _
theorem kn_GN : ∀ (k d m b : Nat) (L : Nat → Int32) (σ : MS), Kn (x_GN k d m b L σ) (kn σ) := by
  intro k
  induction k with
  | zero => intro d m b L σ; exact Kn_no _
  | succ k ih =>
    intro d m b L σ
    match m with
    | 0 => exact kn_s_putNumber ih k d b L σ
    | m + 1 => exact Kn_no _
theorem kn_putNumber (k b : Nat) (L : Nat → Int32) (σ : MS) : Kn (x_putNumber k b L σ) (kn σ) := kn_GN k 12 0 b L σ
theorem kn_s_print {X : Nat → Nat → Nat → (Nat → Int32) → MS → Option (Int32 × MS)} (hX : ∀ e m b L (σ : MS), Kn (X e m b L σ) (kn σ)) (k d b : Nat) (L : Nat → Int32) (σ : MS) : Kn (s_print X k d b L σ) (kn σ) := by
  match b with
  | 0 => exact Kn_ob (Kn_c rfl (kn_kind _ _ _ _)) (fun _ h93 => Kn_ite (Kn_ob (Kn_c h93 (kn_put _ _ _ _)) (fun _ h94 => Kn_ob (Kn_c h94 (kn_put _ _ _ _)) (fun _ h95 => Kn_c h95 (hX _ _ _ _ _)))) (Kn_c h93 (hX _ _ _ _ _)))
  | 1 => exact Kn_ite (Kn_ite (Kn_c rfl (hX _ _ _ _ _)) (Kn_c rfl (hX _ _ _ _ _))) (Kn_c rfl (hX _ _ _ _ _))
  | 2 => exact Kn_c rfl (hX _ _ _ _ _)
  | 3 => exact Kn_ob (Kn_c rfl (kn_putTruth _ _ _ _)) (fun _ h96 => Kn_c h96 (hX _ _ _ _ _))
  | 4 => exact Kn_ite (Kn_ob (Kn_c rfl (kn_putWhole _ _ _ _)) (fun _ h97 => Kn_c h97 (hX _ _ _ _ _))) (Kn_c rfl (hX _ _ _ _ _))
  | 5 => exact Kn_ite (Kn_ob (Kn_c rfl (kn_put _ _ _ _)) (fun _ h98 => Kn_ite (Kn_ob (Kn_c h98 (kn_putNumber _ _ _ _)) (fun _ h99 => Kn_c h99 (hX _ _ _ _ _))) (Kn_no _))) (Kn_c rfl (hX _ _ _ _ _))
  | 6 => exact Kn_ite (Kn_ite (Kn_ob (Kn_c rfl (kn_put _ _ _ _)) (fun _ h100 => Kn_c h100 (hX _ _ _ _ _))) (Kn_c rfl (hX _ _ _ _ _))) (Kn_c rfl (hX _ _ _ _ _))
  | 7 => exact Kn_c rfl (hX _ _ _ _ _)
  | 8 => exact Kn_ite (Kn_ite (Kn_c rfl (hX _ _ _ _ _)) (Kn_ite (Kn_ob (Kn_c rfl (kn_put _ _ _ _)) (fun _ h101 => Kn_c h101 (hX _ _ _ _ _))) (Kn_no _))) (Kn_no _)
  | 9 => exact Kn_ite (Kn_ob (Kn_c rfl (kn_put _ _ _ _)) (fun _ h102 => Kn_c h102 (hX _ _ _ _ _))) (Kn_c rfl (hX _ _ _ _ _))
  | 10 => exact Kn_ite (Kn_c rfl (hX _ _ _ _ _)) (Kn_c rfl (hX _ _ _ _ _))
  | 11 => exact Kn_c rfl (hX _ _ _ _ _)
  | 12 => exact Kn_ob (Kn_c rfl (kn_put _ _ _ _)) (fun _ h103 => Kn_c h103 (hX _ _ _ _ _))
  | 13 => exact Kn_ite (Kn_ite (Kn_c rfl (hX _ _ _ _ _)) (Kn_ite (Kn_c rfl (hX _ _ _ _ _)) (Kn_ob (Kn_c rfl (kn_put _ _ _ _)) (fun _ h104 => Kn_ob (Kn_c h104 (kn_put _ _ _ _)) (fun _ h105 => Kn_c h105 (hX _ _ _ _ _)))))) (Kn_no _)
  | 14 => exact Kn_ite (Kn_od (fun _ => Kn_ob (Kn_c rfl (hX _ _ _ _ _)) (fun _ h106 => Kn_c h106 (hX _ _ _ _ _)))) (Kn_no _)
  | 15 => exact Kn_ite (Kn_c rfl (hX _ _ _ _ _)) (Kn_c rfl (hX _ _ _ _ _))
  | 16 => exact Kn_c rfl (hX _ _ _ _ _)
  | 17 => exact Kn_ob (Kn_c rfl (kn_put _ _ _ _)) (fun _ h107 => Kn_c h107 (hX _ _ _ _ _))
  | 18 => exact Kn_so rfl
  | b + 19 => exact Kn_no _
theorem kn_GP : ∀ (k d m b : Nat) (L : Nat → Int32) (σ : MS), Kn (x_GP k d m b L σ) (kn σ) := by
  intro k
  induction k with
  | zero => intro d m b L σ; exact Kn_no _
  | succ k ih =>
    intro d m b L σ
    match m with
    | 0 => exact kn_s_print ih k d b L σ
    | m + 1 => exact Kn_no _
theorem kn_print (k b : Nat) (L : Nat → Int32) (σ : MS) : Kn (x_print k b L σ) (kn σ) := kn_GP k 40 0 b L σ
theorem kn_intOf : ∀ (k b : Nat) (L : Nat → Int32) (J : Nat → Int64) (σ : MS), Kn (x_intOf k b L J σ) (kn σ) := by
  intro k
  induction k with
  | zero => intro b L J σ; exact Kn_no _
  | succ k ih =>
    intro b L J σ
    match b with
    | 0 =>
      refine Kn_eq (by rw [x_intOf]) ?_
      exact Kn_ite (Kn_c rfl (ih _ _ _ _)) (Kn_no _)
    | 1 =>
      refine Kn_eq (by rw [x_intOf]) ?_
      exact Kn_ite (Kn_c rfl (ih _ _ _ _)) (Kn_ite (Kn_c rfl (ih _ _ _ _)) (Kn_c rfl (ih _ _ _ _)))
    | 2 =>
      refine Kn_eq (by rw [x_intOf]) ?_
      exact Kn_ite (Kn_c rfl (ih _ _ _ _)) (Kn_no _)
    | 3 =>
      refine Kn_eq (by rw [x_intOf]) ?_
      exact Kn_c rfl (ih _ _ _ _)
    | 4 =>
      refine Kn_eq (by rw [x_intOf]) ?_
      exact Kn_ite (Kn_c rfl (ih _ _ _ _)) (Kn_c rfl (ih _ _ _ _))
    | 5 =>
      refine Kn_eq (by rw [x_intOf]) ?_
      exact Kn_c rfl (ih _ _ _ _)
    | 6 =>
      refine Kn_eq (by rw [x_intOf]) ?_
      exact Kn_ob (Kn_c rfl (kn_signOf _ _ _ _)) (fun _ h108 => Kn_ite (Kn_c h108 (ih _ _ _ _)) (Kn_c h108 (ih _ _ _ _)))
    | 7 =>
      refine Kn_eq (by rw [x_intOf]) ?_
      exact Kn_c rfl (ih _ _ _ _)
    | 8 =>
      refine Kn_eq (by rw [x_intOf]) ?_
      exact Kn_so rfl
    | b + 9 =>
      refine Kn_eq (by rw [x_intOf]) (Kn_no _)
theorem kn_byteString : ∀ (k b : Nat) (L : Nat → Int32) (σ : MS), Kn (x_byteString k b L σ) (kn σ) := by
  intro k
  induction k with
  | zero => intro b L σ; exact Kn_no _
  | succ k ih =>
    intro b L σ
    match b with
    | 0 =>
      refine Kn_eq (by rw [x_byteString]) ?_
      exact Kn_ob (Kn_c rfl (kn_make _ _ _ _)) (fun _ h109 => Kn_ite (Kn_c h109 (ih _ _ _)) (Kn_so h109))
    | 1 =>
      refine Kn_eq (by rw [x_byteString]) ?_
      exact Kn_ite (Kn_c rfl (ih _ _ _)) (Kn_no _)
    | 2 =>
      refine Kn_eq (by rw [x_byteString]) ?_
      exact Kn_ite (Kn_c rfl (ih _ _ _)) (Kn_no _)
    | 3 =>
      refine Kn_eq (by rw [x_byteString]) ?_
      exact Kn_so rfl
    | b + 4 =>
      refine Kn_eq (by rw [x_byteString]) (Kn_no _)
theorem kn_character : ∀ (k b : Nat) (L : Nat → Int32) (σ : MS), Kn (x_character k b L σ) (kn σ) := by
  intro k
  induction k with
  | zero => intro b L σ; exact Kn_no _
  | succ k ih =>
    intro b L σ
    match b with
    | 0 =>
      refine Kn_eq (by rw [x_character]) ?_
      exact Kn_ob (Kn_c rfl (kn_kind _ _ _ _)) (fun _ h110 => Kn_ite (Kn_c h110 (ih _ _ _)) (Kn_ob (Kn_c h110 (kn_wrongKind _ _ _ _)) (fun _ h111 => Kn_so h111)))
    | 1 =>
      refine Kn_eq (by rw [x_character]) ?_
      exact Kn_ob (Kn_c rfl (kn_intOf _ _ _ _ _)) (fun _ h112 => Kn_ite (Kn_c h112 (ih _ _ _)) (Kn_ite (Kn_c h112 (ih _ _ _)) (Kn_c h112 (ih _ _ _))))
    | 2 =>
      refine Kn_eq (by rw [x_character]) ?_
      exact Kn_ob (Kn_c rfl (kn_fail _ _ _ _)) (fun _ h113 => Kn_so h113)
    | 3 =>
      refine Kn_eq (by rw [x_character]) ?_
      exact Kn_ob (Kn_c rfl (kn_byteString _ _ _ _)) (fun _ h114 => Kn_so h114)
    | b + 4 =>
      refine Kn_eq (by rw [x_character]) (Kn_no _)
theorem kn_small : ∀ (k b : Nat) (L : Nat → Int32) (σ : MS), Kn (x_small k b L σ) (kn σ) := by
  intro k
  induction k with
  | zero => intro b L σ; exact Kn_no _
  | succ k ih =>
    intro b L σ
    match b with
    | 0 =>
      refine Kn_eq (by rw [x_small]) ?_
      exact Kn_c rfl (ih _ _ _)
    | 1 =>
      refine Kn_eq (by rw [x_small]) ?_
      exact Kn_ite (Kn_c rfl (ih _ _ _)) (Kn_c rfl (ih _ _ _))
    | 2 =>
      refine Kn_eq (by rw [x_small]) ?_
      exact Kn_c rfl (ih _ _ _)
    | 3 =>
      refine Kn_eq (by rw [x_small]) ?_
      exact Kn_c rfl (ih _ _ _)
    | 4 =>
      refine Kn_eq (by rw [x_small]) ?_
      exact Kn_ite (Kn_c rfl (ih _ _ _)) (Kn_ite (Kn_c rfl (ih _ _ _)) (Kn_no _))
    | 5 =>
      refine Kn_eq (by rw [x_small]) ?_
      exact Kn_c rfl (ih _ _ _)
    | 6 =>
      refine Kn_eq (by rw [x_small]) ?_
      exact Kn_ite (Kn_c rfl (ih _ _ _)) (Kn_c rfl (ih _ _ _))
    | 7 =>
      refine Kn_eq (by rw [x_small]) ?_
      exact Kn_c rfl (ih _ _ _)
    | 8 =>
      refine Kn_eq (by rw [x_small]) ?_
      exact Kn_ob (Kn_c rfl (kn_wholeOf _ _ _ _)) (fun _ h115 => Kn_so h115)
    | b + 9 =>
      refine Kn_eq (by rw [x_small]) (Kn_no _)
theorem kn_codeOf : ∀ (k b : Nat) (L : Nat → Int32) (σ : MS), Kn (x_codeOf k b L σ) (kn σ) := by
  intro k
  induction k with
  | zero => intro b L σ; exact Kn_no _
  | succ k ih =>
    intro b L σ
    match b with
    | 0 =>
      refine Kn_eq (by rw [x_codeOf]) ?_
      exact Kn_ob (Kn_c rfl (kn_kind _ _ _ _)) (fun _ h116 => Kn_ite (Kn_c h116 (ih _ _ _)) (Kn_ob (Kn_c h116 (kn_wrongKind _ _ _ _)) (fun _ h117 => Kn_so h117)))
    | 1 =>
      refine Kn_eq (by rw [x_codeOf]) ?_
      exact Kn_ite (Kn_ite (Kn_c rfl (ih _ _ _)) (Kn_ob (Kn_c rfl (kn_fail _ _ _ _)) (fun _ h118 => Kn_so h118))) (Kn_no _)
    | 2 =>
      refine Kn_eq (by rw [x_codeOf]) ?_
      exact Kn_ite (Kn_ob (Kn_c rfl (kn_small _ _ _ _)) (fun _ h119 => Kn_so h119)) (Kn_no _)
    | b + 3 =>
      refine Kn_eq (by rw [x_codeOf]) (Kn_no _)
theorem kn_stringOf__51 : ∀ (k b : Nat) (L : Nat → Int32) (σ : MS), Kn (x_stringOf__51 k b L σ) (kn σ) := by
  intro k
  induction k with
  | zero => intro b L σ; exact Kn_no _
  | succ k ih =>
    intro b L σ
    match b with
    | 0 =>
      refine Kn_eq (by rw [x_stringOf__51]) ?_
      exact Kn_ite (Kn_no _) (Kn_ite (Kn_c rfl (ih _ _ _)) (Kn_ob (Kn_c rfl (kn_fail _ _ _ _)) (fun _ h120 => Kn_so h120)))
    | 1 =>
      refine Kn_eq (by rw [x_stringOf__51]) ?_
      exact Kn_ob (Kn_c rfl (kn_make _ _ _ _)) (fun _ h121 => Kn_c h121 (ih _ _ _))
    | 2 =>
      refine Kn_eq (by rw [x_stringOf__51]) ?_
      exact Kn_ite (Kn_c rfl (ih _ _ _)) (Kn_ite (Kn_ite (Kn_ite (Kn_c rfl (ih _ _ _)) (Kn_no _)) (Kn_no _)) (Kn_c rfl (ih _ _ _)))
    | 3 =>
      refine Kn_eq (by rw [x_stringOf__51]) ?_
      exact Kn_c rfl (ih _ _ _)
    | 4 =>
      refine Kn_eq (by rw [x_stringOf__51]) ?_
      exact Kn_ite (Kn_no _) (Kn_ite (Kn_c rfl (ih _ _ _)) (Kn_no _))
    | 5 =>
      refine Kn_eq (by rw [x_stringOf__51]) ?_
      exact Kn_so rfl
    | b + 6 =>
      refine Kn_eq (by rw [x_stringOf__51]) (Kn_no _)
theorem kn_tupleOf : ∀ (k b : Nat) (L : Nat → Int32) (σ : MS), Kn (x_tupleOf k b L σ) (kn σ) := by
  intro k
  induction k with
  | zero => intro b L σ; exact Kn_no _
  | succ k ih =>
    intro b L σ
    match b with
    | 0 =>
      refine Kn_eq (by rw [x_tupleOf]) ?_
      exact Kn_c rfl (ih _ _ _)
    | 1 =>
      refine Kn_eq (by rw [x_tupleOf]) ?_
      exact Kn_ite (Kn_c rfl (ih _ _ _)) (Kn_ite (Kn_ite (Kn_c rfl (ih _ _ _)) (Kn_c rfl (ih _ _ _))) (Kn_no _))
    | 2 =>
      refine Kn_eq (by rw [x_tupleOf]) ?_
      exact Kn_c rfl (ih _ _ _)
    | 3 =>
      refine Kn_eq (by rw [x_tupleOf]) ?_
      exact Kn_ob (Kn_c rfl (kn_make _ _ _ _)) (fun _ h122 => Kn_ite (Kn_c h122 (ih _ _ _)) (Kn_so h122))
    | 4 =>
      refine Kn_eq (by rw [x_tupleOf]) ?_
      exact Kn_c rfl (ih _ _ _)
    | 5 =>
      refine Kn_eq (by rw [x_tupleOf]) ?_
      exact Kn_ite (Kn_c rfl (ih _ _ _)) (Kn_ite (Kn_ite (Kn_c rfl (ih _ _ _)) (Kn_no _)) (Kn_no _))
    | 6 =>
      refine Kn_eq (by rw [x_tupleOf]) ?_
      exact Kn_c rfl (ih _ _ _)
    | 7 =>
      refine Kn_eq (by rw [x_tupleOf]) ?_
      exact Kn_ob (Kn_c rfl (kn_measured _ _ _ _)) (fun _ h123 => Kn_so h123)
    | b + 8 =>
      refine Kn_eq (by rw [x_tupleOf]) (Kn_no _)
theorem kn_reversed : ∀ (k b : Nat) (L : Nat → Int32) (σ : MS), Kn (x_reversed k b L σ) (kn σ) := by
  intro k
  induction k with
  | zero => intro b L σ; exact Kn_no _
  | succ k ih =>
    intro b L σ
    match b with
    | 0 =>
      refine Kn_eq (by rw [x_reversed]) ?_
      exact Kn_ob (Kn_c rfl (kn_kind _ _ _ _)) (fun _ h124 => Kn_ite (Kn_c h124 (ih _ _ _)) (Kn_ite (Kn_c h124 (ih _ _ _)) (Kn_ob (Kn_c h124 (kn_wrongKind _ _ _ _)) (fun _ h125 => Kn_so h125))))
    | 1 =>
      refine Kn_eq (by rw [x_reversed]) ?_
      exact Kn_ite (Kn_ite (Kn_c rfl (ih _ _ _)) (Kn_c rfl (ih _ _ _))) (Kn_no _)
    | 2 =>
      refine Kn_eq (by rw [x_reversed]) ?_
      exact Kn_ite (Kn_c rfl (ih _ _ _)) (Kn_ite (Kn_ite (Kn_c rfl (ih _ _ _)) (Kn_no _)) (Kn_no _))
    | 3 =>
      refine Kn_eq (by rw [x_reversed]) ?_
      exact Kn_c rfl (ih _ _ _)
    | 4 =>
      refine Kn_eq (by rw [x_reversed]) ?_
      exact Kn_ob (Kn_c rfl (kn_stringOf__51 _ _ _ _)) (fun _ h126 => Kn_so h126)
    | 5 =>
      refine Kn_eq (by rw [x_reversed]) ?_
      exact Kn_c rfl (ih _ _ _)
    | 6 =>
      refine Kn_eq (by rw [x_reversed]) ?_
      exact Kn_ite (Kn_c rfl (ih _ _ _)) (Kn_ite (Kn_ob (Kn_c rfl (kn_push _ _ _ _)) (fun _ h127 => Kn_c h127 (ih _ _ _))) (Kn_no _))
    | 7 =>
      refine Kn_eq (by rw [x_reversed]) ?_
      exact Kn_ob (Kn_c rfl (kn_tupleOf _ _ _ _)) (fun _ h128 => Kn_so h128)
    | b + 8 =>
      refine Kn_eq (by rw [x_reversed]) (Kn_no _)
theorem kn_draw : ∀ (k b : Nat) (L : Nat → Int32) (σ : MS), Kn (x_draw k b L σ) (kn σ) := by
  intro k
  induction k with
  | zero => intro b L σ; exact Kn_no _
  | succ k ih =>
    intro b L σ
    match b with
    | 0 =>
      refine Kn_eq (by rw [x_draw]) ?_
      exact Kn_c rfl (ih _ _ _)
    | 1 =>
      refine Kn_eq (by rw [x_draw]) ?_
      exact Kn_ite (Kn_no _) (Kn_so rfl)
    | b + 2 =>
      refine Kn_eq (by rw [x_draw]) (Kn_no _)
theorem kn_memberAt : ∀ (k b : Nat) (L : Nat → Int32) (σ : MS), Kn (x_memberAt k b L σ) (kn σ) := by
  intro k
  induction k with
  | zero => intro b L σ; exact Kn_no _
  | succ k ih =>
    intro b L σ
    match b with
    | 0 =>
      refine Kn_eq (by rw [x_memberAt]) ?_
      exact Kn_ite (Kn_ite (Kn_ite (Kn_ob (Kn_c rfl (kn_byteString _ _ _ _)) (fun _ h129 => Kn_c h129 (ih _ _ _))) (Kn_no _)) (Kn_c rfl (ih _ _ _))) (Kn_no _)
    | 1 =>
      refine Kn_eq (by rw [x_memberAt]) ?_
      exact Kn_ite (Kn_c rfl (ih _ _ _)) (Kn_no _)
    | 2 =>
      refine Kn_eq (by rw [x_memberAt]) ?_
      exact Kn_so rfl
    | b + 3 =>
      refine Kn_eq (by rw [x_memberAt]) (Kn_no _)
theorem kn_drawn : ∀ (k b : Nat) (L : Nat → Int32) (σ : MS), Kn (x_drawn k b L σ) (kn σ) := by
  intro k
  induction k with
  | zero => intro b L σ; exact Kn_no _
  | succ k ih =>
    intro b L σ
    match b with
    | 0 =>
      refine Kn_eq (by rw [x_drawn]) ?_
      exact Kn_ob (Kn_c rfl (kn_kind _ _ _ _)) (fun _ h130 => Kn_ite (Kn_ite (Kn_ite (Kn_c h130 (ih _ _ _)) (Kn_c h130 (ih _ _ _))) (Kn_no _)) (Kn_c h130 (ih _ _ _)))
    | 1 =>
      refine Kn_eq (by rw [x_drawn]) ?_
      exact Kn_ob (Kn_c rfl (kn_intOf _ _ _ _ _)) (fun _ h131 => Kn_c h131 (ih _ _ _))
    | 2 =>
      refine Kn_eq (by rw [x_drawn]) ?_
      exact Kn_ite (Kn_ite (Kn_ob (Kn_c rfl (kn_signOf _ _ _ _)) (fun _ h132 => Kn_ite (Kn_c h132 (ih _ _ _)) (Kn_ite (Kn_ite (Kn_ite (Kn_ite (Kn_c h132 (ih _ _ _)) (Kn_c h132 (ih _ _ _))) (Kn_no _)) (Kn_c h132 (ih _ _ _))) (Kn_no _)))) (Kn_c rfl (ih _ _ _))) (Kn_no _)
    | 3 =>
      refine Kn_eq (by rw [x_drawn]) ?_
      exact Kn_c rfl (ih _ _ _)
    | 4 =>
      refine Kn_eq (by rw [x_drawn]) ?_
      exact Kn_ite (Kn_c rfl (ih _ _ _)) (Kn_ite (Kn_ite (Kn_c rfl (ih _ _ _)) (Kn_c rfl (ih _ _ _))) (Kn_c rfl (ih _ _ _)))
    | 5 =>
      refine Kn_eq (by rw [x_drawn]) ?_
      exact Kn_ob (Kn_c rfl (kn_fail _ _ _ _)) (fun _ h133 => Kn_so h133)
    | 6 =>
      refine Kn_eq (by rw [x_drawn]) ?_
      exact Kn_ite (Kn_c rfl (ih _ _ _)) (Kn_c rfl (ih _ _ _))
    | 7 =>
      refine Kn_eq (by rw [x_drawn]) ?_
      exact Kn_c rfl (ih _ _ _)
    | 8 =>
      refine Kn_eq (by rw [x_drawn]) ?_
      exact Kn_ob (Kn_c rfl (kn_draw _ _ _ _)) (fun _ h134 => Kn_ob (Kn_c h134 (kn_small _ _ _ _)) (fun _ h135 => Kn_so h135))
    | 9 =>
      refine Kn_eq (by rw [x_drawn]) ?_
      exact Kn_ite (Kn_c rfl (ih _ _ _)) (Kn_ob (Kn_c rfl (kn_wrongKind _ _ _ _)) (fun _ h136 => Kn_so h136))
    | 10 =>
      refine Kn_eq (by rw [x_drawn]) ?_
      exact Kn_ite (Kn_ite (Kn_c rfl (ih _ _ _)) (Kn_c rfl (ih _ _ _))) (Kn_no _)
    | 11 =>
      refine Kn_eq (by rw [x_drawn]) ?_
      exact Kn_ite (Kn_ob (Kn_c rfl (kn_draw _ _ _ _)) (fun _ h137 => Kn_ob (Kn_c h137 (kn_memberAt _ _ _ _)) (fun _ h138 => Kn_c h138 (ih _ _ _)))) (Kn_no _)
    | 12 =>
      refine Kn_eq (by rw [x_drawn]) ?_
      exact Kn_so rfl
    | b + 13 =>
      refine Kn_eq (by rw [x_drawn]) (Kn_no _)
theorem kn_function : ∀ (k b : Nat) (L : Nat → Int32) (σ : MS), Kn (x_function k b L σ) (kn σ) := by
  intro k
  induction k with
  | zero => intro b L σ; exact Kn_no _
  | succ k ih =>
    intro b L σ
    match b with
    | 0 =>
      refine Kn_eq (by rw [x_function]) ?_
      exact Kn_ob (Kn_c rfl (kn_kind _ _ _ _)) (fun _ h139 => Kn_ite (Kn_c h139 (ih _ _ _)) (Kn_ite (Kn_c h139 (ih _ _ _)) (Kn_ite (Kn_c h139 (ih _ _ _)) (Kn_ite (Kn_c h139 (ih _ _ _)) (Kn_ite (Kn_c h139 (ih _ _ _)) (Kn_ite (Kn_c h139 (ih _ _ _)) (Kn_ite (Kn_c h139 (ih _ _ _)) (Kn_ite (Kn_c h139 (ih _ _ _)) (Kn_ite (Kn_c h139 (ih _ _ _)) (Kn_ite (Kn_c h139 (ih _ _ _)) (Kn_ite (Kn_c h139 (ih _ _ _)) (Kn_ite (Kn_c h139 (ih _ _ _)) (Kn_c h139 (ih _ _ _))))))))))))))
    | 1 =>
      refine Kn_eq (by rw [x_function]) ?_
      exact Kn_ite (Kn_c rfl (ih _ _ _)) (Kn_ob (Kn_c rfl (kn_wrongKind _ _ _ _)) (fun _ h140 => Kn_c h140 (ih _ _ _)))
    | 2 =>
      refine Kn_eq (by rw [x_function]) ?_
      exact Kn_ob (Kn_c rfl (kn_signOf _ _ _ _)) (fun _ h141 => Kn_ite (Kn_c h141 (ih _ _ _)) (Kn_ob (Kn_c h141 (kn_other _ _ _ _)) (fun _ h142 => Kn_c h142 (ih _ _ _))))
    | 3 =>
      refine Kn_eq (by rw [x_function]) ?_
      exact Kn_c rfl (ih _ _ _)
    | 4 =>
      refine Kn_eq (by rw [x_function]) ?_
      exact Kn_so rfl
    | 5 =>
      refine Kn_eq (by rw [x_function]) ?_
      exact Kn_ite (Kn_c rfl (ih _ _ _)) (Kn_ob (Kn_c rfl (kn_wrongKind _ _ _ _)) (fun _ h143 => Kn_c h143 (ih _ _ _)))
    | 6 =>
      refine Kn_eq (by rw [x_function]) ?_
      exact Kn_ite (Kn_ite (Kn_c rfl (ih _ _ _)) (Kn_c rfl (ih _ _ _))) (Kn_no _)
    | 7 =>
      refine Kn_eq (by rw [x_function]) ?_
      exact Kn_ite (Kn_c rfl (ih _ _ _)) (Kn_no _)
    | 8 =>
      refine Kn_eq (by rw [x_function]) ?_
      exact Kn_so rfl
    | 9 =>
      refine Kn_eq (by rw [x_function]) ?_
      exact Kn_ob (Kn_c rfl (kn_side _ _ _ _)) (fun _ h144 => Kn_so h144)
    | 10 =>
      refine Kn_eq (by rw [x_function]) ?_
      exact Kn_ob (Kn_c rfl (kn_side _ _ _ _)) (fun _ h145 => Kn_so h145)
    | 11 =>
      refine Kn_eq (by rw [x_function]) ?_
      exact Kn_ob (Kn_c rfl (kn_powerSet _ _ _ _)) (fun _ h146 => Kn_so h146)
    | 12 =>
      refine Kn_eq (by rw [x_function]) ?_
      exact Kn_ob (Kn_c rfl (kn_typeOf _ _ _ _)) (fun _ h147 => Kn_so h147)
    | 13 =>
      refine Kn_eq (by rw [x_function]) ?_
      exact Kn_c rfl (ih _ _ _)
    | 14 =>
      refine Kn_eq (by rw [x_function]) ?_
      exact Kn_ob (Kn_c rfl (kn_print _ _ _ _)) (fun _ h148 => Kn_ob (Kn_c h148 (kn_stringOf__48 _ _ _ _)) (fun _ h149 => Kn_so h149))
    | 15 =>
      refine Kn_eq (by rw [x_function]) ?_
      exact Kn_ob (Kn_c rfl (kn_character _ _ _ _)) (fun _ h150 => Kn_so h150)
    | 16 =>
      refine Kn_eq (by rw [x_function]) ?_
      exact Kn_ob (Kn_c rfl (kn_codeOf _ _ _ _)) (fun _ h151 => Kn_so h151)
    | 17 =>
      refine Kn_eq (by rw [x_function]) ?_
      exact Kn_ob (Kn_c rfl (kn_reversed _ _ _ _)) (fun _ h152 => Kn_so h152)
    | 18 =>
      refine Kn_eq (by rw [x_function]) ?_
      exact Kn_ob (Kn_c rfl (kn_drawn _ _ _ _)) (fun _ h153 => Kn_so h153)
    | b + 19 =>
      refine Kn_eq (by rw [x_function]) (Kn_no _)
theorem kn_negative : ∀ (k b : Nat) (L : Nat → Int32) (σ : MS), Kn (x_negative k b L σ) (kn σ) := by
  intro k
  induction k with
  | zero => intro b L σ; exact Kn_no _
  | succ k ih =>
    intro b L σ
    match b with
    | 0 =>
      refine Kn_eq (by rw [x_negative]) ?_
      exact Kn_ob (Kn_c rfl (kn_kind _ _ _ _)) (fun _ h154 => Kn_ite (Kn_c h154 (ih _ _ _)) (Kn_ob (Kn_c h154 (kn_wrongKind _ _ _ _)) (fun _ h155 => Kn_c h155 (ih _ _ _))))
    | 1 =>
      refine Kn_eq (by rw [x_negative]) ?_
      exact Kn_ob (Kn_c rfl (kn_other _ _ _ _)) (fun _ h156 => Kn_c h156 (ih _ _ _))
    | 2 =>
      refine Kn_eq (by rw [x_negative]) ?_
      exact Kn_so rfl
    | b + 3 =>
      refine Kn_eq (by rw [x_negative]) (Kn_no _)
theorem kn_many : ∀ (k b : Nat) (L : Nat → Int32) (σ : MS), Kn (x_many k b L σ) (kn σ) := by
  intro k
  induction k with
  | zero => intro b L σ; exact Kn_no _
  | succ k ih =>
    intro b L σ
    match b with
    | 0 =>
      refine Kn_eq (by rw [x_many]) ?_
      exact Kn_ob (Kn_c rfl (kn_kind _ _ _ _)) (fun _ h157 => Kn_ite (Kn_c h157 (ih _ _ _)) (Kn_ob (Kn_c h157 (kn_fail _ _ _ _)) (fun _ h158 => Kn_so h158)))
    | 1 =>
      refine Kn_eq (by rw [x_many]) ?_
      exact Kn_ite (Kn_ob (Kn_c rfl (kn_small _ _ _ _)) (fun _ h159 => Kn_so h159)) (Kn_no _)
    | b + 2 =>
      refine Kn_eq (by rw [x_many]) (Kn_no _)
theorem kn_truth : ∀ (k b : Nat) (L : Nat → Int32) (σ : MS), Kn (x_truth k b L σ) (kn σ) := by
  intro k
  induction k with
  | zero => intro b L σ; exact Kn_no _
  | succ k ih =>
    intro b L σ
    match b with
    | 0 =>
      refine Kn_eq (by rw [x_truth]) ?_
      exact Kn_ite (Kn_c rfl (ih _ _ _)) (Kn_c rfl (ih _ _ _))
    | 1 =>
      refine Kn_eq (by rw [x_truth]) ?_
      exact Kn_c rfl (ih _ _ _)
    | 2 =>
      refine Kn_eq (by rw [x_truth]) ?_
      exact Kn_so rfl
    | b + 3 =>
      refine Kn_eq (by rw [x_truth]) (Kn_no _)
theorem kn_turned : ∀ (k b : Nat) (L : Nat → Int32) (σ : MS), Kn (x_turned k b L σ) (kn σ) := by
  intro k
  induction k with
  | zero => intro b L σ; exact Kn_no _
  | succ k ih =>
    intro b L σ
    match b with
    | 0 =>
      refine Kn_eq (by rw [x_turned]) ?_
      exact Kn_ite (Kn_c rfl (ih _ _ _)) (Kn_ite (Kn_c rfl (ih _ _ _)) (Kn_ob (Kn_c rfl (kn_fail _ _ _ _)) (fun _ h160 => Kn_c h160 (ih _ _ _))))
    | 1 =>
      refine Kn_eq (by rw [x_turned]) ?_
      exact Kn_ite (Kn_c rfl (ih _ _ _)) (Kn_c rfl (ih _ _ _))
    | 2 =>
      refine Kn_eq (by rw [x_turned]) ?_
      exact Kn_c rfl (ih _ _ _)
    | 3 =>
      refine Kn_eq (by rw [x_turned]) ?_
      exact Kn_ob (Kn_c rfl (kn_truth _ _ _ _)) (fun _ h161 => Kn_so h161)
    | b + 4 =>
      refine Kn_eq (by rw [x_turned]) (Kn_no _)
theorem kn_loadB : ∀ (k b : Nat) (L : Nat → Int32) (σ : MS), Kn (x_loadB k b L σ) (kn σ) := by
  intro k
  induction k with
  | zero => intro b L σ; exact Kn_no _
  | succ k ih =>
    intro b L σ
    match b with
    | 0 =>
      refine Kn_eq (by rw [x_loadB]) ?_
      exact Kn_ite (Kn_c rfl (ih _ _ _)) (Kn_no _)
    | 1 =>
      refine Kn_eq (by rw [x_loadB]) ?_
      exact Kn_c rfl (ih _ _ _)
    | 2 =>
      refine Kn_eq (by rw [x_loadB]) ?_
      exact Kn_ite (Kn_c rfl (ih _ _ _)) (Kn_ite (Kn_ite (Kn_c rfl (ih _ _ _)) (Kn_no _)) (Kn_no _))
    | 3 =>
      refine Kn_eq (by rw [x_loadB]) ?_
      exact Kn_c rfl (ih _ _ _)
    | 4 =>
      refine Kn_eq (by rw [x_loadB]) ?_
      exact Kn_so rfl
    | b + 5 =>
      refine Kn_eq (by rw [x_loadB]) (Kn_no _)
theorem kn_compareRows__42__43 : ∀ (k b : Nat) (L : Nat → Int32) (σ : MS), Kn (x_compareRows__42__43 k b L σ) (kn σ) := by
  intro k
  induction k with
  | zero => intro b L σ; exact Kn_no _
  | succ k ih =>
    intro b L σ
    match b with
    | 0 =>
      refine Kn_eq (by rw [x_compareRows__42__43]) ?_
      exact Kn_c rfl (ih _ _ _)
    | 1 =>
      refine Kn_eq (by rw [x_compareRows__42__43]) ?_
      exact Kn_ite (Kn_c rfl (ih _ _ _)) (Kn_ite (Kn_ite (Kn_ite (Kn_c rfl (ih _ _ _)) (Kn_no _)) (Kn_no _)) (Kn_c rfl (ih _ _ _)))
    | 2 =>
      refine Kn_eq (by rw [x_compareRows__42__43]) ?_
      exact Kn_so rfl
    | b + 3 =>
      refine Kn_eq (by rw [x_compareRows__42__43]) (Kn_no _)
theorem kn_add : ∀ (k b : Nat) (L : Nat → Int32) (σ : MS), Kn (x_add k b L σ) (kn σ) := by
  intro k
  induction k with
  | zero => intro b L σ; exact Kn_no _
  | succ k ih =>
    intro b L σ
    match b with
    | 0 =>
      refine Kn_eq (by rw [x_add]) ?_
      exact Kn_ob (Kn_c rfl (kn_loadA _ _ _ _)) (fun _ h162 => Kn_ob (Kn_c h162 (kn_loadB _ _ _ _)) (fun _ h163 => Kn_ob (Kn_c h163 (kn_signOf _ _ _ _)) (fun _ h164 => Kn_ob (Kn_c h164 (kn_signOf _ _ _ _)) (fun _ h165 => Kn_ite (Kn_c h165 (ih _ _ _)) (Kn_ite (Kn_c h165 (ih _ _ _)) (Kn_ite (Kn_c h165 (ih _ _ _)) (Kn_c h165 (ih _ _ _))))))))
    | 1 =>
      refine Kn_eq (by rw [x_add]) ?_
      exact Kn_ite (Kn_c rfl (ih _ _ _)) (Kn_c rfl (ih _ _ _))
    | 2 =>
      refine Kn_eq (by rw [x_add]) ?_
      exact Kn_c rfl (ih _ _ _)
    | 3 =>
      refine Kn_eq (by rw [x_add]) ?_
      exact Kn_c rfl (ih _ _ _)
    | 4 =>
      refine Kn_eq (by rw [x_add]) ?_
      exact Kn_c rfl (ih _ _ _)
    | 5 =>
      refine Kn_eq (by rw [x_add]) ?_
      exact Kn_ite (Kn_c rfl (ih _ _ _)) (Kn_ite (Kn_c rfl (ih _ _ _)) (Kn_ite (Kn_c rfl (ih _ _ _)) (Kn_no _)))
    | 6 =>
      refine Kn_eq (by rw [x_add]) ?_
      exact Kn_c rfl (ih _ _ _)
    | 7 =>
      refine Kn_eq (by rw [x_add]) ?_
      exact Kn_ite (Kn_c rfl (ih _ _ _)) (Kn_ite (Kn_c rfl (ih _ _ _)) (Kn_no _))
    | 8 =>
      refine Kn_eq (by rw [x_add]) ?_
      exact Kn_c rfl (ih _ _ _)
    | 9 =>
      refine Kn_eq (by rw [x_add]) ?_
      exact Kn_ite (Kn_c rfl (ih _ _ _)) (Kn_no _)
    | 10 =>
      refine Kn_eq (by rw [x_add]) ?_
      exact Kn_c rfl (ih _ _ _)
    | 11 =>
      refine Kn_eq (by rw [x_add]) ?_
      exact Kn_ite (Kn_c rfl (ih _ _ _)) (Kn_ite (Kn_c rfl (ih _ _ _)) (Kn_no _))
    | 12 =>
      refine Kn_eq (by rw [x_add]) ?_
      exact Kn_c rfl (ih _ _ _)
    | 13 =>
      refine Kn_eq (by rw [x_add]) ?_
      exact Kn_ite (Kn_c rfl (ih _ _ _)) (Kn_c rfl (ih _ _ _))
    | 14 =>
      refine Kn_eq (by rw [x_add]) ?_
      exact Kn_c rfl (ih _ _ _)
    | 15 =>
      refine Kn_eq (by rw [x_add]) ?_
      exact Kn_ob (Kn_c rfl (kn_wholeOf _ _ _ _)) (fun _ h166 => Kn_so h166)
    | 16 =>
      refine Kn_eq (by rw [x_add]) ?_
      exact Kn_ob (Kn_c rfl (kn_compareRows__42__43 _ _ _ _)) (fun _ h167 => Kn_ite (Kn_c h167 (ih _ _ _)) (Kn_c h167 (ih _ _ _)))
    | 17 =>
      refine Kn_eq (by rw [x_add]) ?_
      exact Kn_c rfl (ih _ _ _)
    | 18 =>
      refine Kn_eq (by rw [x_add]) ?_
      exact Kn_c rfl (ih _ _ _)
    | 19 =>
      refine Kn_eq (by rw [x_add]) ?_
      exact Kn_c rfl (ih _ _ _)
    | 20 =>
      refine Kn_eq (by rw [x_add]) ?_
      exact Kn_ite (Kn_c rfl (ih _ _ _)) (Kn_ite (Kn_c rfl (ih _ _ _)) (Kn_ite (Kn_c rfl (ih _ _ _)) (Kn_no _)))
    | 21 =>
      refine Kn_eq (by rw [x_add]) ?_
      exact Kn_c rfl (ih _ _ _)
    | 22 =>
      refine Kn_eq (by rw [x_add]) ?_
      exact Kn_ite (Kn_c rfl (ih _ _ _)) (Kn_ite (Kn_c rfl (ih _ _ _)) (Kn_no _))
    | 23 =>
      refine Kn_eq (by rw [x_add]) ?_
      exact Kn_c rfl (ih _ _ _)
    | 24 =>
      refine Kn_eq (by rw [x_add]) ?_
      exact Kn_ite (Kn_c rfl (ih _ _ _)) (Kn_c rfl (ih _ _ _))
    | 25 =>
      refine Kn_eq (by rw [x_add]) ?_
      exact Kn_c rfl (ih _ _ _)
    | 26 =>
      refine Kn_eq (by rw [x_add]) ?_
      exact Kn_ite (Kn_c rfl (ih _ _ _)) (Kn_c rfl (ih _ _ _))
    | 27 =>
      refine Kn_eq (by rw [x_add]) ?_
      exact Kn_c rfl (ih _ _ _)
    | 28 =>
      refine Kn_eq (by rw [x_add]) ?_
      exact Kn_ite (Kn_c rfl (ih _ _ _)) (Kn_no _)
    | 29 =>
      refine Kn_eq (by rw [x_add]) ?_
      exact Kn_c rfl (ih _ _ _)
    | 30 =>
      refine Kn_eq (by rw [x_add]) ?_
      exact Kn_ite (Kn_c rfl (ih _ _ _)) (Kn_c rfl (ih _ _ _))
    | 31 =>
      refine Kn_eq (by rw [x_add]) ?_
      exact Kn_c rfl (ih _ _ _)
    | 32 =>
      refine Kn_eq (by rw [x_add]) ?_
      exact Kn_ob (Kn_c rfl (kn_wholeOf _ _ _ _)) (fun _ h168 => Kn_so h168)
    | b + 33 =>
      refine Kn_eq (by rw [x_add]) (Kn_no _)
theorem kn_joined : ∀ (k b : Nat) (L : Nat → Int32) (σ : MS), Kn (x_joined k b L σ) (kn σ) := by
  intro k
  induction k with
  | zero => intro b L σ; exact Kn_no _
  | succ k ih =>
    intro b L σ
    match b with
    | 0 =>
      refine Kn_eq (by rw [x_joined]) ?_
      exact Kn_ite (Kn_ite (Kn_c rfl (ih _ _ _)) (Kn_no _)) (Kn_no _)
    | 1 =>
      refine Kn_eq (by rw [x_joined]) ?_
      exact Kn_ite (Kn_c rfl (ih _ _ _)) (Kn_ite (Kn_ite (Kn_c rfl (ih _ _ _)) (Kn_no _)) (Kn_no _))
    | 2 =>
      refine Kn_eq (by rw [x_joined]) ?_
      exact Kn_c rfl (ih _ _ _)
    | 3 =>
      refine Kn_eq (by rw [x_joined]) ?_
      exact Kn_c rfl (ih _ _ _)
    | 4 =>
      refine Kn_eq (by rw [x_joined]) ?_
      exact Kn_ite (Kn_c rfl (ih _ _ _)) (Kn_ite (Kn_ite (Kn_c rfl (ih _ _ _)) (Kn_no _)) (Kn_no _))
    | 5 =>
      refine Kn_eq (by rw [x_joined]) ?_
      exact Kn_c rfl (ih _ _ _)
    | 6 =>
      refine Kn_eq (by rw [x_joined]) ?_
      exact Kn_ob (Kn_c rfl (kn_stringOf__51 _ _ _ _)) (fun _ h169 => Kn_so h169)
    | b + 7 =>
      refine Kn_eq (by rw [x_joined]) (Kn_no _)
theorem kn_plus : ∀ (k b : Nat) (L : Nat → Int32) (σ : MS), Kn (x_plus k b L σ) (kn σ) := by
  intro k
  induction k with
  | zero => intro b L σ; exact Kn_no _
  | succ k ih =>
    intro b L σ
    match b with
    | 0 =>
      refine Kn_eq (by rw [x_plus]) ?_
      exact Kn_ob (Kn_c rfl (kn_kind _ _ _ _)) (fun _ h170 => Kn_ob (Kn_c h170 (kn_kind _ _ _ _)) (fun _ h171 => Kn_ite (Kn_ite (Kn_c h171 (ih _ _ _)) (Kn_ite (Kn_c h171 (ih _ _ _)) (Kn_c h171 (ih _ _ _)))) (Kn_c h171 (ih _ _ _))))
    | 1 =>
      refine Kn_eq (by rw [x_plus]) ?_
      exact Kn_ob (Kn_c rfl (kn_wrongKind _ _ _ _)) (fun _ h172 => Kn_so h172)
    | 2 =>
      refine Kn_eq (by rw [x_plus]) ?_
      exact Kn_ite (Kn_ob (Kn_c rfl (kn_add _ _ _ _)) (fun _ h173 => Kn_so h173)) (Kn_c rfl (ih _ _ _))
    | 3 =>
      refine Kn_eq (by rw [x_plus]) ?_
      exact Kn_ite (Kn_ob (Kn_c rfl (kn_joined _ _ _ _)) (fun _ h174 => Kn_so h174)) (Kn_c rfl (ih _ _ _))
    | 4 =>
      refine Kn_eq (by rw [x_plus]) ?_
      exact Kn_c rfl (ih _ _ _)
    | 5 =>
      refine Kn_eq (by rw [x_plus]) ?_
      exact Kn_ite (Kn_ite (Kn_c rfl (ih _ _ _)) (Kn_ite (Kn_ob (Kn_c rfl (kn_push _ _ _ _)) (fun _ h175 => Kn_c h175 (ih _ _ _))) (Kn_no _))) (Kn_no _)
    | 6 =>
      refine Kn_eq (by rw [x_plus]) ?_
      exact Kn_c rfl (ih _ _ _)
    | 7 =>
      refine Kn_eq (by rw [x_plus]) ?_
      exact Kn_ite (Kn_ite (Kn_c rfl (ih _ _ _)) (Kn_ite (Kn_ob (Kn_c rfl (kn_push _ _ _ _)) (fun _ h176 => Kn_c h176 (ih _ _ _))) (Kn_no _))) (Kn_no _)
    | 8 =>
      refine Kn_eq (by rw [x_plus]) ?_
      exact Kn_ite (Kn_ob (Kn_c rfl (kn_setOf _ _ _ _)) (fun _ h177 => Kn_c h177 (ih _ _ _))) (Kn_c rfl (ih _ _ _))
    | 9 =>
      refine Kn_eq (by rw [x_plus]) ?_
      exact Kn_ob (Kn_c rfl (kn_tupleOf _ _ _ _)) (fun _ h178 => Kn_c h178 (ih _ _ _))
    | 10 =>
      refine Kn_eq (by rw [x_plus]) ?_
      exact Kn_so rfl
    | b + 11 =>
      refine Kn_eq (by rw [x_plus]) (Kn_no _)
theorem kn_has : ∀ (k b : Nat) (L : Nat → Int32) (σ : MS), Kn (x_has k b L σ) (kn σ) := by
  intro k
  induction k with
  | zero => intro b L σ; exact Kn_no _
  | succ k ih =>
    intro b L σ
    match b with
    | 0 =>
      refine Kn_eq (by rw [x_has]) ?_
      exact Kn_ite (Kn_c rfl (ih _ _ _)) (Kn_no _)
    | 1 =>
      refine Kn_eq (by rw [x_has]) ?_
      exact Kn_ite (Kn_c rfl (ih _ _ _)) (Kn_ite (Kn_no _) (Kn_ite (Kn_ob (Kn_c rfl (kn_compare _ _ _ _)) (fun _ h179 => Kn_ite (Kn_so h179) (Kn_c h179 (ih _ _ _)))) (Kn_no _)))
    | 2 =>
      refine Kn_eq (by rw [x_has]) ?_
      exact Kn_ite (Kn_c rfl (ih _ _ _)) (Kn_c rfl (ih _ _ _))
    | 3 =>
      refine Kn_eq (by rw [x_has]) ?_
      exact Kn_c rfl (ih _ _ _)
    | 4 =>
      refine Kn_eq (by rw [x_has]) ?_
      exact Kn_ite (Kn_c rfl (ih _ _ _)) (Kn_c rfl (ih _ _ _))
    | 5 =>
      refine Kn_eq (by rw [x_has]) ?_
      exact Kn_c rfl (ih _ _ _)
    | 6 =>
      refine Kn_eq (by rw [x_has]) ?_
      exact Kn_c rfl (ih _ _ _)
    | 7 =>
      refine Kn_eq (by rw [x_has]) ?_
      exact Kn_so rfl
    | b + 8 =>
      refine Kn_eq (by rw [x_has]) (Kn_no _)
theorem kn_sift : ∀ (k b : Nat) (L : Nat → Int32) (σ : MS), Kn (x_sift k b L σ) (kn σ) := by
  intro k
  induction k with
  | zero => intro b L σ; exact Kn_no _
  | succ k ih =>
    intro b L σ
    match b with
    | 0 =>
      refine Kn_eq (by rw [x_sift]) ?_
      exact Kn_c rfl (ih _ _ _)
    | 1 =>
      refine Kn_eq (by rw [x_sift]) ?_
      exact Kn_ite (Kn_ite (Kn_c rfl (ih _ _ _)) (Kn_ite (Kn_ob (Kn_c rfl (kn_has _ _ _ _)) (fun _ h180 => Kn_ite (Kn_ite (Kn_ob (Kn_c h180 (kn_push _ _ _ _)) (fun _ h181 => Kn_c h181 (ih _ _ _))) (Kn_no _)) (Kn_c h180 (ih _ _ _)))) (Kn_no _))) (Kn_no _)
    | 2 =>
      refine Kn_eq (by rw [x_sift]) ?_
      exact Kn_c rfl (ih _ _ _)
    | 3 =>
      refine Kn_eq (by rw [x_sift]) ?_
      exact Kn_ob (Kn_c rfl (kn_setOf _ _ _ _)) (fun _ h182 => Kn_so h182)
    | b + 4 =>
      refine Kn_eq (by rw [x_sift]) (Kn_no _)
theorem kn_multiply : ∀ (k b : Nat) (L : Nat → Int32) (J : Nat → Int64) (σ : MS), Kn (x_multiply k b L J σ) (kn σ) := by
  intro k
  induction k with
  | zero => intro b L J σ; exact Kn_no _
  | succ k ih =>
    intro b L J σ
    match b with
    | 0 =>
      refine Kn_eq (by rw [x_multiply]) ?_
      exact Kn_ob (Kn_c rfl (kn_loadA _ _ _ _)) (fun _ h183 => Kn_ob (Kn_c h183 (kn_loadB _ _ _ _)) (fun _ h184 => Kn_c h184 (ih _ _ _ _)))
    | 1 =>
      refine Kn_eq (by rw [x_multiply]) ?_
      exact Kn_c rfl (ih _ _ _ _)
    | 2 =>
      refine Kn_eq (by rw [x_multiply]) ?_
      exact Kn_ite (Kn_c rfl (ih _ _ _ _)) (Kn_ite (Kn_c rfl (ih _ _ _ _)) (Kn_no _))
    | 3 =>
      refine Kn_eq (by rw [x_multiply]) ?_
      exact Kn_c rfl (ih _ _ _ _)
    | 4 =>
      refine Kn_eq (by rw [x_multiply]) ?_
      exact Kn_c rfl (ih _ _ _ _)
    | 5 =>
      refine Kn_eq (by rw [x_multiply]) ?_
      exact Kn_ite (Kn_c rfl (ih _ _ _ _)) (Kn_c rfl (ih _ _ _ _))
    | 6 =>
      refine Kn_eq (by rw [x_multiply]) ?_
      exact Kn_ite (Kn_c rfl (ih _ _ _ _)) (Kn_ite (Kn_ite (Kn_ite (Kn_ite (Kn_c rfl (ih _ _ _ _)) (Kn_no _)) (Kn_no _)) (Kn_no _)) (Kn_no _))
    | 7 =>
      refine Kn_eq (by rw [x_multiply]) ?_
      exact Kn_c rfl (ih _ _ _ _)
    | 8 =>
      refine Kn_eq (by rw [x_multiply]) ?_
      exact Kn_ite (Kn_c rfl (ih _ _ _ _)) (Kn_no _)
    | 9 =>
      refine Kn_eq (by rw [x_multiply]) ?_
      exact Kn_c rfl (ih _ _ _ _)
    | 10 =>
      refine Kn_eq (by rw [x_multiply]) ?_
      exact Kn_ob (Kn_c rfl (kn_signOf _ _ _ _)) (fun _ h185 => Kn_ob (Kn_c h185 (kn_signOf _ _ _ _)) (fun _ h186 => Kn_ob (Kn_c h186 (kn_wholeOf _ _ _ _)) (fun _ h187 => Kn_so h187)))
    | b + 11 =>
      refine Kn_eq (by rw [x_multiply]) (Kn_no _)
theorem kn_repeat : ∀ (k b : Nat) (L : Nat → Int32) (σ : MS), Kn (x_repeat k b L σ) (kn σ) := by
  intro k
  induction k with
  | zero => intro b L σ; exact Kn_no _
  | succ k ih =>
    intro b L σ
    match b with
    | 0 =>
      refine Kn_eq (by rw [x_repeat]) ?_
      exact Kn_ob (Kn_c rfl (kn_signOf _ _ _ _)) (fun _ h188 => Kn_ite (Kn_c h188 (ih _ _ _)) (Kn_ob (Kn_c h188 (kn_fail _ _ _ _)) (fun _ h189 => Kn_so h189)))
    | 1 =>
      refine Kn_eq (by rw [x_repeat]) ?_
      exact Kn_ite (Kn_ite (Kn_c rfl (ih _ _ _)) (Kn_c rfl (ih _ _ _))) (Kn_no _)
    | 2 =>
      refine Kn_eq (by rw [x_repeat]) ?_
      exact Kn_ob (Kn_c rfl (kn_intOf _ _ _ _ _)) (fun _ h190 => Kn_c h190 (ih _ _ _))
    | 3 =>
      refine Kn_eq (by rw [x_repeat]) ?_
      exact Kn_ite (Kn_c rfl (ih _ _ _)) (Kn_ob (Kn_c rfl (kn_fail _ _ _ _)) (fun _ h191 => Kn_so h191))
    | 4 =>
      refine Kn_eq (by rw [x_repeat]) ?_
      exact Kn_ite (Kn_ite (Kn_c rfl (ih _ _ _)) (Kn_c rfl (ih _ _ _))) (Kn_no _)
    | 5 =>
      refine Kn_eq (by rw [x_repeat]) ?_
      exact Kn_ite (Kn_c rfl (ih _ _ _)) (Kn_ite (Kn_no _) (Kn_ite (Kn_ite (Kn_c rfl (ih _ _ _)) (Kn_no _)) (Kn_no _)))
    | 6 =>
      refine Kn_eq (by rw [x_repeat]) ?_
      exact Kn_c rfl (ih _ _ _)
    | 7 =>
      refine Kn_eq (by rw [x_repeat]) ?_
      exact Kn_ob (Kn_c rfl (kn_stringOf__51 _ _ _ _)) (fun _ h192 => Kn_so h192)
    | 8 =>
      refine Kn_eq (by rw [x_repeat]) ?_
      exact Kn_c rfl (ih _ _ _)
    | 9 =>
      refine Kn_eq (by rw [x_repeat]) ?_
      exact Kn_ite (Kn_c rfl (ih _ _ _)) (Kn_ite (Kn_no _) (Kn_ite (Kn_ob (Kn_c rfl (kn_push _ _ _ _)) (fun _ h193 => Kn_c h193 (ih _ _ _))) (Kn_no _)))
    | 10 =>
      refine Kn_eq (by rw [x_repeat]) ?_
      exact Kn_ob (Kn_c rfl (kn_tupleOf _ _ _ _)) (fun _ h194 => Kn_so h194)
    | b + 11 =>
      refine Kn_eq (by rw [x_repeat]) (Kn_no _)
theorem kn_rowsTimes : ∀ (k b : Nat) (L : Nat → Int32) (J : Nat → Int64) (σ : MS), Kn (x_rowsTimes k b L J σ) (kn σ) := by
  intro k
  induction k with
  | zero => intro b L J σ; exact Kn_no _
  | succ k ih =>
    intro b L J σ
    match b with
    | 0 =>
      refine Kn_eq (by rw [x_rowsTimes]) ?_
      exact Kn_c rfl (ih _ _ _ _)
    | 1 =>
      refine Kn_eq (by rw [x_rowsTimes]) ?_
      exact Kn_c rfl (ih _ _ _ _)
    | 2 =>
      refine Kn_eq (by rw [x_rowsTimes]) ?_
      exact Kn_ite (Kn_c rfl (ih _ _ _ _)) (Kn_ite (Kn_c rfl (ih _ _ _ _)) (Kn_no _))
    | 3 =>
      refine Kn_eq (by rw [x_rowsTimes]) ?_
      exact Kn_c rfl (ih _ _ _ _)
    | 4 =>
      refine Kn_eq (by rw [x_rowsTimes]) ?_
      exact Kn_c rfl (ih _ _ _ _)
    | 5 =>
      refine Kn_eq (by rw [x_rowsTimes]) ?_
      exact Kn_ite (Kn_c rfl (ih _ _ _ _)) (Kn_c rfl (ih _ _ _ _))
    | 6 =>
      refine Kn_eq (by rw [x_rowsTimes]) ?_
      exact Kn_ite (Kn_c rfl (ih _ _ _ _)) (Kn_ite (Kn_ite (Kn_ite (Kn_ite (Kn_c rfl (ih _ _ _ _)) (Kn_no _)) (Kn_no _)) (Kn_no _)) (Kn_no _))
    | 7 =>
      refine Kn_eq (by rw [x_rowsTimes]) ?_
      exact Kn_c rfl (ih _ _ _ _)
    | 8 =>
      refine Kn_eq (by rw [x_rowsTimes]) ?_
      exact Kn_ite (Kn_c rfl (ih _ _ _ _)) (Kn_no _)
    | 9 =>
      refine Kn_eq (by rw [x_rowsTimes]) ?_
      exact Kn_c rfl (ih _ _ _ _)
    | 10 =>
      refine Kn_eq (by rw [x_rowsTimes]) ?_
      exact Kn_ite (Kn_c rfl (ih _ _ _ _)) (Kn_ite (Kn_ite (Kn_c rfl (ih _ _ _ _)) (Kn_c rfl (ih _ _ _ _))) (Kn_no _))
    | 11 =>
      refine Kn_eq (by rw [x_rowsTimes]) ?_
      exact Kn_so rfl
    | b + 12 =>
      refine Kn_eq (by rw [x_rowsTimes]) (Kn_no _)
theorem kn_raise : ∀ (k b : Nat) (L : Nat → Int32) (σ : MS), Kn (x_raise k b L σ) (kn σ) := by
  intro k
  induction k with
  | zero => intro b L σ; exact Kn_no _
  | succ k ih =>
    intro b L σ
    match b with
    | 0 =>
      refine Kn_eq (by rw [x_raise]) ?_
      exact Kn_ob (Kn_c rfl (kn_signOf _ _ _ _)) (fun _ h195 => Kn_ite (Kn_c h195 (ih _ _ _)) (Kn_ob (Kn_c h195 (kn_fail _ _ _ _)) (fun _ h196 => Kn_so h196)))
    | 1 =>
      refine Kn_eq (by rw [x_raise]) ?_
      exact Kn_ob (Kn_c rfl (kn_intOf _ _ _ _ _)) (fun _ h197 => Kn_ite (Kn_ob (Kn_c h197 (kn_small _ _ _ _)) (fun _ h198 => Kn_so h198)) (Kn_c h197 (ih _ _ _)))
    | 2 =>
      refine Kn_eq (by rw [x_raise]) ?_
      exact Kn_ite (Kn_ite (Kn_c rfl (ih _ _ _)) (Kn_ite (Kn_ite (Kn_c rfl (ih _ _ _)) (Kn_c rfl (ih _ _ _))) (Kn_no _))) (Kn_no _)
    | 3 =>
      refine Kn_eq (by rw [x_raise]) ?_
      exact Kn_c rfl (ih _ _ _)
    | 4 =>
      refine Kn_eq (by rw [x_raise]) ?_
      exact Kn_ite (Kn_ite (Kn_c rfl (ih _ _ _)) (Kn_ite (Kn_ite (Kn_ite (Kn_ite (Kn_c rfl (ih _ _ _)) (Kn_c rfl (ih _ _ _))) (Kn_no _)) (Kn_c rfl (ih _ _ _))) (Kn_no _))) (Kn_no _)
    | 5 =>
      refine Kn_eq (by rw [x_raise]) ?_
      exact Kn_ob (Kn_c rfl (kn_signOf _ _ _ _)) (fun _ h199 => Kn_ite (Kn_c h199 (ih _ _ _)) (Kn_ite (Kn_c h199 (ih _ _ _)) (Kn_c h199 (ih _ _ _))))
    | 6 =>
      refine Kn_eq (by rw [x_raise]) ?_
      exact Kn_c rfl (ih _ _ _)
    | 7 =>
      refine Kn_eq (by rw [x_raise]) ?_
      exact Kn_ob (Kn_c rfl (kn_small _ _ _ _)) (fun _ h200 => Kn_c h200 (ih _ _ _))
    | 8 =>
      refine Kn_eq (by rw [x_raise]) ?_
      exact Kn_so rfl
    | 9 =>
      refine Kn_eq (by rw [x_raise]) ?_
      exact Kn_ob (Kn_c rfl (kn_loadA _ _ _ _)) (fun _ h201 => Kn_c h201 (ih _ _ _))
    | 10 =>
      refine Kn_eq (by rw [x_raise]) ?_
      exact Kn_ite (Kn_c rfl (ih _ _ _)) (Kn_ite (Kn_ite (Kn_c rfl (ih _ _ _)) (Kn_no _)) (Kn_no _))
    | 11 =>
      refine Kn_eq (by rw [x_raise]) ?_
      exact Kn_c rfl (ih _ _ _)
    | 12 =>
      refine Kn_eq (by rw [x_raise]) ?_
      exact Kn_c rfl (ih _ _ _)
    | 13 =>
      refine Kn_eq (by rw [x_raise]) ?_
      exact Kn_ite (Kn_c rfl (ih _ _ _)) (Kn_ite (Kn_ob (Kn_c rfl (kn_rowsTimes _ _ _ _ _)) (fun _ h202 => Kn_ite (Kn_c h202 (ih _ _ _)) (Kn_ob (Kn_c h202 (kn_fail _ _ _ _)) (fun _ h203 => Kn_c h203 (ih _ _ _))))) (Kn_c rfl (ih _ _ _)))
    | 14 =>
      refine Kn_eq (by rw [x_raise]) ?_
      exact Kn_c rfl (ih _ _ _)
    | 15 =>
      refine Kn_eq (by rw [x_raise]) ?_
      exact Kn_ite (Kn_c rfl (ih _ _ _)) (Kn_ite (Kn_ite (Kn_c rfl (ih _ _ _)) (Kn_no _)) (Kn_no _))
    | 16 =>
      refine Kn_eq (by rw [x_raise]) ?_
      exact Kn_c rfl (ih _ _ _)
    | 17 =>
      refine Kn_eq (by rw [x_raise]) ?_
      exact Kn_c rfl (ih _ _ _)
    | 18 =>
      refine Kn_eq (by rw [x_raise]) ?_
      exact Kn_ite (Kn_c rfl (ih _ _ _)) (Kn_so rfl)
    | 19 =>
      refine Kn_eq (by rw [x_raise]) ?_
      exact Kn_c rfl (ih _ _ _)
    | 20 =>
      refine Kn_eq (by rw [x_raise]) ?_
      exact Kn_c rfl (ih _ _ _)
    | 21 =>
      refine Kn_eq (by rw [x_raise]) ?_
      exact Kn_ite (Kn_c rfl (ih _ _ _)) (Kn_ite (Kn_ite (Kn_c rfl (ih _ _ _)) (Kn_no _)) (Kn_no _))
    | 22 =>
      refine Kn_eq (by rw [x_raise]) ?_
      exact Kn_c rfl (ih _ _ _)
    | 23 =>
      refine Kn_eq (by rw [x_raise]) ?_
      exact Kn_ob (Kn_c rfl (kn_signOf _ _ _ _)) (fun _ h204 => Kn_ite (Kn_c h204 (ih _ _ _)) (Kn_ite (Kn_c h204 (ih _ _ _)) (Kn_c h204 (ih _ _ _))))
    | 24 =>
      refine Kn_eq (by rw [x_raise]) ?_
      exact Kn_c rfl (ih _ _ _)
    | 25 =>
      refine Kn_eq (by rw [x_raise]) ?_
      exact Kn_ob (Kn_c rfl (kn_wholeOf _ _ _ _)) (fun _ h205 => Kn_so h205)
    | b + 26 =>
      refine Kn_eq (by rw [x_raise]) (Kn_no _)
theorem kn_compareRows__46__43 : ∀ (k b : Nat) (L : Nat → Int32) (σ : MS), Kn (x_compareRows__46__43 k b L σ) (kn σ) := by
  intro k
  induction k with
  | zero => intro b L σ; exact Kn_no _
  | succ k ih =>
    intro b L σ
    match b with
    | 0 =>
      refine Kn_eq (by rw [x_compareRows__46__43]) ?_
      exact Kn_c rfl (ih _ _ _)
    | 1 =>
      refine Kn_eq (by rw [x_compareRows__46__43]) ?_
      exact Kn_ite (Kn_c rfl (ih _ _ _)) (Kn_ite (Kn_ite (Kn_ite (Kn_c rfl (ih _ _ _)) (Kn_no _)) (Kn_no _)) (Kn_c rfl (ih _ _ _)))
    | 2 =>
      refine Kn_eq (by rw [x_compareRows__46__43]) ?_
      exact Kn_so rfl
    | b + 3 =>
      refine Kn_eq (by rw [x_compareRows__46__43]) (Kn_no _)
theorem kn_divideRows : ∀ (k b : Nat) (L : Nat → Int32) (σ : MS), Kn (x_divideRows k b L σ) (kn σ) := by
  intro k
  induction k with
  | zero => intro b L σ; exact Kn_no _
  | succ k ih =>
    intro b L σ
    match b with
    | 0 =>
      refine Kn_eq (by rw [x_divideRows]) ?_
      exact Kn_c rfl (ih _ _ _)
    | 1 =>
      refine Kn_eq (by rw [x_divideRows]) ?_
      exact Kn_c rfl (ih _ _ _)
    | 2 =>
      refine Kn_eq (by rw [x_divideRows]) ?_
      exact Kn_c rfl (ih _ _ _)
    | 3 =>
      refine Kn_eq (by rw [x_divideRows]) ?_
      exact Kn_ite (Kn_c rfl (ih _ _ _)) (Kn_ite (Kn_c rfl (ih _ _ _)) (Kn_no _))
    | 4 =>
      refine Kn_eq (by rw [x_divideRows]) ?_
      exact Kn_c rfl (ih _ _ _)
    | 5 =>
      refine Kn_eq (by rw [x_divideRows]) ?_
      exact Kn_c rfl (ih _ _ _)
    | 6 =>
      refine Kn_eq (by rw [x_divideRows]) ?_
      exact Kn_ite (Kn_c rfl (ih _ _ _)) (Kn_ite (Kn_c rfl (ih _ _ _)) (Kn_no _))
    | 7 =>
      refine Kn_eq (by rw [x_divideRows]) ?_
      exact Kn_ite (Kn_c rfl (ih _ _ _)) (Kn_ite (Kn_ite (Kn_c rfl (ih _ _ _)) (Kn_no _)) (Kn_no _))
    | 8 =>
      refine Kn_eq (by rw [x_divideRows]) ?_
      exact Kn_c rfl (ih _ _ _)
    | 9 =>
      refine Kn_eq (by rw [x_divideRows]) ?_
      exact Kn_ite (Kn_c rfl (ih _ _ _)) (Kn_ite (Kn_c rfl (ih _ _ _)) (Kn_no _))
    | 10 =>
      refine Kn_eq (by rw [x_divideRows]) ?_
      exact Kn_c rfl (ih _ _ _)
    | 11 =>
      refine Kn_eq (by rw [x_divideRows]) ?_
      exact Kn_ob (Kn_c rfl (kn_compareRows__46__43 _ _ _ _)) (fun _ h206 => Kn_ite (Kn_c h206 (ih _ _ _)) (Kn_c h206 (ih _ _ _)))
    | 12 =>
      refine Kn_eq (by rw [x_divideRows]) ?_
      exact Kn_ite (Kn_c rfl (ih _ _ _)) (Kn_ite (Kn_ite (Kn_c rfl (ih _ _ _)) (Kn_ite (Kn_c rfl (ih _ _ _)) (Kn_no _))) (Kn_no _))
    | 13 =>
      refine Kn_eq (by rw [x_divideRows]) ?_
      exact Kn_c rfl (ih _ _ _)
    | 14 =>
      refine Kn_eq (by rw [x_divideRows]) ?_
      exact Kn_ite (Kn_c rfl (ih _ _ _)) (Kn_c rfl (ih _ _ _))
    | 15 =>
      refine Kn_eq (by rw [x_divideRows]) ?_
      exact Kn_c rfl (ih _ _ _)
    | 16 =>
      refine Kn_eq (by rw [x_divideRows]) ?_
      exact Kn_ite (Kn_c rfl (ih _ _ _)) (Kn_no _)
    | 17 =>
      refine Kn_eq (by rw [x_divideRows]) ?_
      exact Kn_c rfl (ih _ _ _)
    | 18 =>
      refine Kn_eq (by rw [x_divideRows]) ?_
      exact Kn_ite (Kn_c rfl (ih _ _ _)) (Kn_ite (Kn_ite (Kn_c rfl (ih _ _ _)) (Kn_c rfl (ih _ _ _))) (Kn_no _))
    | 19 =>
      refine Kn_eq (by rw [x_divideRows]) ?_
      exact Kn_ite (Kn_ite (Kn_c rfl (ih _ _ _)) (Kn_no _)) (Kn_no _)
    | 20 =>
      refine Kn_eq (by rw [x_divideRows]) ?_
      exact Kn_c rfl (ih _ _ _)
    | 21 =>
      refine Kn_eq (by rw [x_divideRows]) ?_
      exact Kn_so rfl
    | b + 22 =>
      refine Kn_eq (by rw [x_divideRows]) (Kn_no _)
theorem kn_divide : ∀ (k b : Nat) (L : Nat → Int32) (σ : MS), Kn (x_divide k b L σ) (kn σ) := by
  intro k
  induction k with
  | zero => intro b L σ; exact Kn_no _
  | succ k ih =>
    intro b L σ
    match b with
    | 0 =>
      refine Kn_eq (by rw [x_divide]) ?_
      exact Kn_ob (Kn_c rfl (kn_signOf _ _ _ _)) (fun _ h207 => Kn_ite (Kn_ob (Kn_c h207 (kn_fail _ _ _ _)) (fun _ h208 => Kn_so h208)) (Kn_c h207 (ih _ _ _)))
    | 1 =>
      refine Kn_eq (by rw [x_divide]) ?_
      exact Kn_ob (Kn_c rfl (kn_loadA _ _ _ _)) (fun _ h209 => Kn_ob (Kn_c h209 (kn_loadB _ _ _ _)) (fun _ h210 => Kn_ob (Kn_c h210 (kn_divideRows _ _ _ _)) (fun _ h211 => Kn_ob (Kn_c h211 (kn_signOf _ _ _ _)) (fun _ h212 => Kn_ite (Kn_c h212 (ih _ _ _)) (Kn_ite (Kn_c h212 (ih _ _ _)) (Kn_c h212 (ih _ _ _)))))))
    | 2 =>
      refine Kn_eq (by rw [x_divide]) ?_
      exact Kn_c rfl (ih _ _ _)
    | 3 =>
      refine Kn_eq (by rw [x_divide]) ?_
      exact Kn_ite (Kn_c rfl (ih _ _ _)) (Kn_ite (Kn_c rfl (ih _ _ _)) (Kn_c rfl (ih _ _ _)))
    | 4 =>
      refine Kn_eq (by rw [x_divide]) ?_
      exact Kn_c rfl (ih _ _ _)
    | 5 =>
      refine Kn_eq (by rw [x_divide]) ?_
      exact Kn_c rfl (ih _ _ _)
    | 6 =>
      refine Kn_eq (by rw [x_divide]) ?_
      exact Kn_c rfl (ih _ _ _)
    | 7 =>
      refine Kn_eq (by rw [x_divide]) ?_
      exact Kn_ite (Kn_c rfl (ih _ _ _)) (Kn_ite (Kn_c rfl (ih _ _ _)) (Kn_ite (Kn_c rfl (ih _ _ _)) (Kn_no _)))
    | 8 =>
      refine Kn_eq (by rw [x_divide]) ?_
      exact Kn_c rfl (ih _ _ _)
    | 9 =>
      refine Kn_eq (by rw [x_divide]) ?_
      exact Kn_ite (Kn_c rfl (ih _ _ _)) (Kn_ite (Kn_c rfl (ih _ _ _)) (Kn_no _))
    | 10 =>
      refine Kn_eq (by rw [x_divide]) ?_
      exact Kn_c rfl (ih _ _ _)
    | 11 =>
      refine Kn_eq (by rw [x_divide]) ?_
      exact Kn_ite (Kn_c rfl (ih _ _ _)) (Kn_ite (Kn_c rfl (ih _ _ _)) (Kn_c rfl (ih _ _ _)))
    | 12 =>
      refine Kn_eq (by rw [x_divide]) ?_
      exact Kn_c rfl (ih _ _ _)
    | 13 =>
      refine Kn_eq (by rw [x_divide]) ?_
      exact Kn_ite (Kn_c rfl (ih _ _ _)) (Kn_no _)
    | 14 =>
      refine Kn_eq (by rw [x_divide]) ?_
      exact Kn_c rfl (ih _ _ _)
    | 15 =>
      refine Kn_eq (by rw [x_divide]) ?_
      exact Kn_ob (Kn_c rfl (kn_wholeOf _ _ _ _)) (fun _ h213 => Kn_so h213)
    | 16 =>
      refine Kn_eq (by rw [x_divide]) ?_
      exact Kn_c rfl (ih _ _ _)
    | 17 =>
      refine Kn_eq (by rw [x_divide]) ?_
      exact Kn_ite (Kn_c rfl (ih _ _ _)) (Kn_c rfl (ih _ _ _))
    | 18 =>
      refine Kn_eq (by rw [x_divide]) ?_
      exact Kn_c rfl (ih _ _ _)
    | 19 =>
      refine Kn_eq (by rw [x_divide]) ?_
      exact Kn_c rfl (ih _ _ _)
    | 20 =>
      refine Kn_eq (by rw [x_divide]) ?_
      exact Kn_ite (Kn_c rfl (ih _ _ _)) (Kn_ite (Kn_ite (Kn_c rfl (ih _ _ _)) (Kn_no _)) (Kn_no _))
    | 21 =>
      refine Kn_eq (by rw [x_divide]) ?_
      exact Kn_c rfl (ih _ _ _)
    | 22 =>
      refine Kn_eq (by rw [x_divide]) ?_
      exact Kn_ite (Kn_c rfl (ih _ _ _)) (Kn_ite (Kn_c rfl (ih _ _ _)) (Kn_no _))
    | 23 =>
      refine Kn_eq (by rw [x_divide]) ?_
      exact Kn_c rfl (ih _ _ _)
    | 24 =>
      refine Kn_eq (by rw [x_divide]) ?_
      exact Kn_ob (Kn_c rfl (kn_signOf _ _ _ _)) (fun _ h214 => Kn_ob (Kn_c h214 (kn_signOf _ _ _ _)) (fun _ h215 => Kn_ob (Kn_c h215 (kn_wholeOf _ _ _ _)) (fun _ h216 => Kn_so h216)))
    | b + 25 =>
      refine Kn_eq (by rw [x_divide]) (Kn_no _)
theorem kn_isIn : ∀ (k b : Nat) (L : Nat → Int32) (σ : MS), Kn (x_isIn k b L σ) (kn σ) := by
  intro k
  induction k with
  | zero => intro b L σ; exact Kn_no _
  | succ k ih =>
    intro b L σ
    match b with
    | 0 =>
      refine Kn_eq (by rw [x_isIn]) ?_
      exact Kn_ob (Kn_c rfl (kn_kind _ _ _ _)) (fun _ h217 => Kn_ite (Kn_ite (Kn_c h217 (ih _ _ _)) (Kn_ob (Kn_c h217 (kn_has _ _ _ _)) (fun _ h218 => Kn_ite (Kn_c h218 (ih _ _ _)) (Kn_c h218 (ih _ _ _))))) (Kn_c h217 (ih _ _ _)))
    | 1 =>
      refine Kn_eq (by rw [x_isIn]) ?_
      exact Kn_c rfl (ih _ _ _)
    | 2 =>
      refine Kn_eq (by rw [x_isIn]) ?_
      exact Kn_ob (Kn_c rfl (kn_truth _ _ _ _)) (fun _ h219 => Kn_so h219)
    | 3 =>
      refine Kn_eq (by rw [x_isIn]) ?_
      exact Kn_ite (Kn_c rfl (ih _ _ _)) (Kn_c rfl (ih _ _ _))
    | 4 =>
      refine Kn_eq (by rw [x_isIn]) ?_
      exact Kn_ite (Kn_ite (Kn_c rfl (ih _ _ _)) (Kn_ite (Kn_c rfl (ih _ _ _)) (Kn_ite (Kn_ite (Kn_ob (Kn_c rfl (kn_compare _ _ _ _)) (fun _ h220 => Kn_ite (Kn_c h220 (ih _ _ _)) (Kn_c h220 (ih _ _ _)))) (Kn_no _)) (Kn_c rfl (ih _ _ _))))) (Kn_no _)
    | 5 =>
      refine Kn_eq (by rw [x_isIn]) ?_
      exact Kn_c rfl (ih _ _ _)
    | 6 =>
      refine Kn_eq (by rw [x_isIn]) ?_
      exact Kn_c rfl (ih _ _ _)
    | 7 =>
      refine Kn_eq (by rw [x_isIn]) ?_
      exact Kn_c rfl (ih _ _ _)
    | 8 =>
      refine Kn_eq (by rw [x_isIn]) ?_
      exact Kn_ob (Kn_c rfl (kn_truth _ _ _ _)) (fun _ h221 => Kn_so h221)
    | 9 =>
      refine Kn_eq (by rw [x_isIn]) ?_
      exact Kn_ite (Kn_ob (Kn_c rfl (kn_kind _ _ _ _)) (fun _ h222 => Kn_ite (Kn_c h222 (ih _ _ _)) (Kn_c h222 (ih _ _ _)))) (Kn_c rfl (ih _ _ _))
    | 10 =>
      refine Kn_eq (by rw [x_isIn]) ?_
      exact Kn_ob (Kn_c rfl (kn_wrongKind _ _ _ _)) (fun _ h223 => Kn_so h223)
    | 11 =>
      refine Kn_eq (by rw [x_isIn]) ?_
      exact Kn_c rfl (ih _ _ _)
    | 12 =>
      refine Kn_eq (by rw [x_isIn]) ?_
      exact Kn_ite (Kn_ite (Kn_ite (Kn_c rfl (ih _ _ _)) (Kn_ite (Kn_c rfl (ih _ _ _)) (Kn_c rfl (ih _ _ _)))) (Kn_no _)) (Kn_no _)
    | 13 =>
      refine Kn_eq (by rw [x_isIn]) ?_
      exact Kn_ite (Kn_ite (Kn_c rfl (ih _ _ _)) (Kn_ite (Kn_c rfl (ih _ _ _)) (Kn_ite (Kn_ite (Kn_ite (Kn_c rfl (ih _ _ _)) (Kn_c rfl (ih _ _ _))) (Kn_no _)) (Kn_no _)))) (Kn_no _)
    | 14 =>
      refine Kn_eq (by rw [x_isIn]) ?_
      exact Kn_c rfl (ih _ _ _)
    | 15 =>
      refine Kn_eq (by rw [x_isIn]) ?_
      exact Kn_c rfl (ih _ _ _)
    | 16 =>
      refine Kn_eq (by rw [x_isIn]) ?_
      exact Kn_c rfl (ih _ _ _)
    | 17 =>
      refine Kn_eq (by rw [x_isIn]) ?_
      exact Kn_ob (Kn_c rfl (kn_truth _ _ _ _)) (fun _ h224 => Kn_so h224)
    | b + 18 =>
      refine Kn_eq (by rw [x_isIn]) (Kn_no _)
theorem kn_isSubset : ∀ (k b : Nat) (L : Nat → Int32) (σ : MS), Kn (x_isSubset k b L σ) (kn σ) := by
  intro k
  induction k with
  | zero => intro b L σ; exact Kn_no _
  | succ k ih =>
    intro b L σ
    match b with
    | 0 =>
      refine Kn_eq (by rw [x_isSubset]) ?_
      exact Kn_c rfl (ih _ _ _)
    | 1 =>
      refine Kn_eq (by rw [x_isSubset]) ?_
      exact Kn_ite (Kn_ite (Kn_c rfl (ih _ _ _)) (Kn_ite (Kn_c rfl (ih _ _ _)) (Kn_ite (Kn_ob (Kn_c rfl (kn_has _ _ _ _)) (fun _ h225 => Kn_c h225 (ih _ _ _))) (Kn_no _)))) (Kn_no _)
    | 2 =>
      refine Kn_eq (by rw [x_isSubset]) ?_
      exact Kn_ite (Kn_so rfl) (Kn_no _)
    | b + 3 =>
      refine Kn_eq (by rw [x_isSubset]) (Kn_no _)
theorem kn_operate : ∀ (k b : Nat) (L : Nat → Int32) (σ : MS), Kn (x_operate k b L σ) (kn σ) := by
  intro k
  induction k with
  | zero => intro b L σ; exact Kn_no _
  | succ k ih =>
    intro b L σ
    match b with
    | 0 =>
      refine Kn_eq (by rw [x_operate]) ?_
      exact Kn_ob (Kn_c rfl (kn_kind _ _ _ _)) (fun _ h226 => Kn_ob (Kn_c h226 (kn_kind _ _ _ _)) (fun _ h227 => Kn_ite (Kn_ite (Kn_c h227 (ih _ _ _)) (Kn_c h227 (ih _ _ _))) (Kn_c h227 (ih _ _ _))))
    | 1 =>
      refine Kn_eq (by rw [x_operate]) ?_
      exact Kn_c rfl (ih _ _ _)
    | 2 =>
      refine Kn_eq (by rw [x_operate]) ?_
      exact Kn_ite (Kn_c rfl (ih _ _ _)) (Kn_ite (Kn_c rfl (ih _ _ _)) (Kn_ite (Kn_c rfl (ih _ _ _)) (Kn_ite (Kn_c rfl (ih _ _ _)) (Kn_ite (Kn_c rfl (ih _ _ _)) (Kn_ite (Kn_c rfl (ih _ _ _)) (Kn_ite (Kn_c rfl (ih _ _ _)) (Kn_ite (Kn_c rfl (ih _ _ _)) (Kn_ite (Kn_c rfl (ih _ _ _)) (Kn_ite (Kn_c rfl (ih _ _ _)) (Kn_ite (Kn_c rfl (ih _ _ _)) (Kn_c rfl (ih _ _ _))))))))))))
    | 3 =>
      refine Kn_eq (by rw [x_operate]) ?_
      exact Kn_ob (Kn_c rfl (kn_plus _ _ _ _)) (fun _ h228 => Kn_so h228)
    | 4 =>
      refine Kn_eq (by rw [x_operate]) ?_
      exact Kn_ite (Kn_c rfl (ih _ _ _)) (Kn_ob (Kn_c rfl (kn_add _ _ _ _)) (fun _ h229 => Kn_so h229))
    | 5 =>
      refine Kn_eq (by rw [x_operate]) ?_
      exact Kn_ite (Kn_ite (Kn_ob (Kn_c rfl (kn_sift _ _ _ _)) (fun _ h230 => Kn_c h230 (ih _ _ _))) (Kn_c rfl (ih _ _ _))) (Kn_c rfl (ih _ _ _))
    | 6 =>
      refine Kn_eq (by rw [x_operate]) ?_
      exact Kn_ob (Kn_c rfl (kn_wrongKind _ _ _ _)) (fun _ h231 => Kn_c h231 (ih _ _ _))
    | 7 =>
      refine Kn_eq (by rw [x_operate]) ?_
      exact Kn_so rfl
    | 8 =>
      refine Kn_eq (by rw [x_operate]) ?_
      exact Kn_ite (Kn_c rfl (ih _ _ _)) (Kn_ob (Kn_c rfl (kn_multiply _ _ _ _ _)) (fun _ h232 => Kn_so h232))
    | 9 =>
      refine Kn_eq (by rw [x_operate]) ?_
      exact Kn_ite (Kn_ite (Kn_ob (Kn_c rfl (kn_sift _ _ _ _)) (fun _ h233 => Kn_so h233)) (Kn_c rfl (ih _ _ _))) (Kn_c rfl (ih _ _ _))
    | 10 =>
      refine Kn_eq (by rw [x_operate]) ?_
      exact Kn_ite (Kn_c rfl (ih _ _ _)) (Kn_ite (Kn_c rfl (ih _ _ _)) (Kn_c rfl (ih _ _ _)))
    | 11 =>
      refine Kn_eq (by rw [x_operate]) ?_
      exact Kn_ite (Kn_ob (Kn_c rfl (kn_repeat _ _ _ _)) (fun _ h234 => Kn_c h234 (ih _ _ _))) (Kn_c rfl (ih _ _ _))
    | 12 =>
      refine Kn_eq (by rw [x_operate]) ?_
      exact Kn_ob (Kn_c rfl (kn_wrongKind _ _ _ _)) (fun _ h235 => Kn_c h235 (ih _ _ _))
    | 13 =>
      refine Kn_eq (by rw [x_operate]) ?_
      exact Kn_so rfl
    | 14 =>
      refine Kn_eq (by rw [x_operate]) ?_
      exact Kn_ite (Kn_c rfl (ih _ _ _)) (Kn_ob (Kn_c rfl (kn_raise _ _ _ _)) (fun _ h236 => Kn_c h236 (ih _ _ _)))
    | 15 =>
      refine Kn_eq (by rw [x_operate]) ?_
      exact Kn_ob (Kn_c rfl (kn_wrongKind _ _ _ _)) (fun _ h237 => Kn_c h237 (ih _ _ _))
    | 16 =>
      refine Kn_eq (by rw [x_operate]) ?_
      exact Kn_so rfl
    | 17 =>
      refine Kn_eq (by rw [x_operate]) ?_
      exact Kn_ob (Kn_c rfl (kn_compare _ _ _ _)) (fun _ h238 => Kn_ite (Kn_c h238 (ih _ _ _)) (Kn_c h238 (ih _ _ _)))
    | 18 =>
      refine Kn_eq (by rw [x_operate]) ?_
      exact Kn_c rfl (ih _ _ _)
    | 19 =>
      refine Kn_eq (by rw [x_operate]) ?_
      exact Kn_ob (Kn_c rfl (kn_truth _ _ _ _)) (fun _ h239 => Kn_so h239)
    | 20 =>
      refine Kn_eq (by rw [x_operate]) ?_
      exact Kn_ob (Kn_c rfl (kn_compare _ _ _ _)) (fun _ h240 => Kn_ite (Kn_c h240 (ih _ _ _)) (Kn_c h240 (ih _ _ _)))
    | 21 =>
      refine Kn_eq (by rw [x_operate]) ?_
      exact Kn_c rfl (ih _ _ _)
    | 22 =>
      refine Kn_eq (by rw [x_operate]) ?_
      exact Kn_ob (Kn_c rfl (kn_truth _ _ _ _)) (fun _ h241 => Kn_so h241)
    | 23 =>
      refine Kn_eq (by rw [x_operate]) ?_
      exact Kn_ite (Kn_c rfl (ih _ _ _)) (Kn_ob (Kn_c rfl (kn_divide _ _ _ _)) (fun _ h242 => Kn_c h242 (ih _ _ _)))
    | 24 =>
      refine Kn_eq (by rw [x_operate]) ?_
      exact Kn_ob (Kn_c rfl (kn_wrongKind _ _ _ _)) (fun _ h243 => Kn_c h243 (ih _ _ _))
    | 25 =>
      refine Kn_eq (by rw [x_operate]) ?_
      exact Kn_so rfl
    | 26 =>
      refine Kn_eq (by rw [x_operate]) ?_
      exact Kn_ite (Kn_c rfl (ih _ _ _)) (Kn_ob (Kn_c rfl (kn_divide _ _ _ _)) (fun _ h244 => Kn_c h244 (ih _ _ _)))
    | 27 =>
      refine Kn_eq (by rw [x_operate]) ?_
      exact Kn_ob (Kn_c rfl (kn_wrongKind _ _ _ _)) (fun _ h245 => Kn_c h245 (ih _ _ _))
    | 28 =>
      refine Kn_eq (by rw [x_operate]) ?_
      exact Kn_so rfl
    | 29 =>
      refine Kn_eq (by rw [x_operate]) ?_
      exact Kn_ob (Kn_c rfl (kn_isIn _ _ _ _)) (fun _ h246 => Kn_so h246)
    | 30 =>
      refine Kn_eq (by rw [x_operate]) ?_
      exact Kn_ob (Kn_c rfl (kn_isIn _ _ _ _)) (fun _ h247 => Kn_ite (Kn_c h247 (ih _ _ _)) (Kn_c h247 (ih _ _ _)))
    | 31 =>
      refine Kn_eq (by rw [x_operate]) ?_
      exact Kn_c rfl (ih _ _ _)
    | 32 =>
      refine Kn_eq (by rw [x_operate]) ?_
      exact Kn_ob (Kn_c rfl (kn_truth _ _ _ _)) (fun _ h248 => Kn_so h248)
    | 33 =>
      refine Kn_eq (by rw [x_operate]) ?_
      exact Kn_ite (Kn_ite (Kn_ob (Kn_c rfl (kn_isSubset _ _ _ _)) (fun _ h249 => Kn_ob (Kn_c h249 (kn_truth _ _ _ _)) (fun _ h250 => Kn_c h250 (ih _ _ _)))) (Kn_c rfl (ih _ _ _))) (Kn_c rfl (ih _ _ _))
    | 34 =>
      refine Kn_eq (by rw [x_operate]) ?_
      exact Kn_ob (Kn_c rfl (kn_wrongKind _ _ _ _)) (fun _ h251 => Kn_c h251 (ih _ _ _))
    | 35 =>
      refine Kn_eq (by rw [x_operate]) ?_
      exact Kn_so rfl
    | 36 =>
      refine Kn_eq (by rw [x_operate]) ?_
      exact Kn_ite (Kn_ite (Kn_ite (Kn_c rfl (ih _ _ _)) (Kn_c rfl (ih _ _ _))) (Kn_c rfl (ih _ _ _))) (Kn_c rfl (ih _ _ _))
    | 37 =>
      refine Kn_eq (by rw [x_operate]) ?_
      exact Kn_ob (Kn_c rfl (kn_wrongKind _ _ _ _)) (fun _ h252 => Kn_so h252)
    | 38 =>
      refine Kn_eq (by rw [x_operate]) ?_
      exact Kn_ob (Kn_c rfl (kn_compare _ _ _ _)) (fun _ h253 => Kn_ite (Kn_ite (Kn_c h253 (ih _ _ _)) (Kn_c h253 (ih _ _ _))) (Kn_c h253 (ih _ _ _)))
    | 39 =>
      refine Kn_eq (by rw [x_operate]) ?_
      exact Kn_c rfl (ih _ _ _)
    | 40 =>
      refine Kn_eq (by rw [x_operate]) ?_
      exact Kn_ite (Kn_ite (Kn_c rfl (ih _ _ _)) (Kn_c rfl (ih _ _ _))) (Kn_c rfl (ih _ _ _))
    | 41 =>
      refine Kn_eq (by rw [x_operate]) ?_
      exact Kn_c rfl (ih _ _ _)
    | 42 =>
      refine Kn_eq (by rw [x_operate]) ?_
      exact Kn_ite (Kn_ite (Kn_c rfl (ih _ _ _)) (Kn_c rfl (ih _ _ _))) (Kn_c rfl (ih _ _ _))
    | 43 =>
      refine Kn_eq (by rw [x_operate]) ?_
      exact Kn_c rfl (ih _ _ _)
    | 44 =>
      refine Kn_eq (by rw [x_operate]) ?_
      exact Kn_ite (Kn_c rfl (ih _ _ _)) (Kn_c rfl (ih _ _ _))
    | 45 =>
      refine Kn_eq (by rw [x_operate]) ?_
      exact Kn_c rfl (ih _ _ _)
    | 46 =>
      refine Kn_eq (by rw [x_operate]) ?_
      exact Kn_ob (Kn_c rfl (kn_truth _ _ _ _)) (fun _ h254 => Kn_so h254)
    | b + 47 =>
      refine Kn_eq (by rw [x_operate]) (Kn_no _)
theorem kn_reduce : ∀ (k b : Nat) (L : Nat → Int32) (σ : MS), Kn (x_reduce k b L σ) (kn σ) := by
  intro k
  induction k with
  | zero => intro b L σ; exact Kn_no _
  | succ k ih =>
    intro b L σ
    match b with
    | 0 =>
      refine Kn_eq (by rw [x_reduce]) ?_
      exact Kn_ob (Kn_c rfl (kn_kind _ _ _ _)) (fun _ h255 => Kn_ite (Kn_c h255 (ih _ _ _)) (Kn_ite (Kn_c h255 (ih _ _ _)) (Kn_ob (Kn_c h255 (kn_wrongKind _ _ _ _)) (fun _ h256 => Kn_so h256))))
    | 1 =>
      refine Kn_eq (by rw [x_reduce]) ?_
      exact Kn_ite (Kn_ite (Kn_so rfl) (Kn_c rfl (ih _ _ _))) (Kn_no _)
    | 2 =>
      refine Kn_eq (by rw [x_reduce]) ?_
      exact Kn_ob (Kn_c rfl (kn_push _ _ _ _)) (fun _ h257 => Kn_ite (Kn_ob (Kn_c h257 (kn_push _ _ _ _)) (fun _ h258 => Kn_c h258 (ih _ _ _))) (Kn_no _))
    | 3 =>
      refine Kn_eq (by rw [x_reduce]) ?_
      exact Kn_ite (Kn_c rfl (ih _ _ _)) (Kn_ite (Kn_ob (Kn_c rfl (kn_sweep _ _ _ _)) (fun _ h259 => Kn_ite (Kn_ite (Kn_ite (Kn_ite (Kn_c h259 (ih _ _ _)) (Kn_ite (Kn_c h259 (ih _ _ _)) (Kn_c h259 (ih _ _ _)))) (Kn_no _)) (Kn_no _)) (Kn_no _))) (Kn_c rfl (ih _ _ _)))
    | 4 =>
      refine Kn_eq (by rw [x_reduce]) ?_
      exact Kn_ob (Kn_c rfl (kn_operate _ _ _ _)) (fun _ h260 => Kn_ob (Kn_c h260 (kn_answer _ _ _ _)) (fun _ h261 => Kn_c h261 (ih _ _ _)))
    | 5 =>
      refine Kn_eq (by rw [x_reduce]) ?_
      exact Kn_ob (Kn_c rfl (kn_operate _ _ _ _)) (fun _ h262 => Kn_ite (Kn_c h262 (ih _ _ _)) (Kn_c h262 (ih _ _ _)))
    | 6 =>
      refine Kn_eq (by rw [x_reduce]) ?_
      exact Kn_c rfl (ih _ _ _)
    | 7 =>
      refine Kn_eq (by rw [x_reduce]) ?_
      exact Kn_ite (Kn_ite (Kn_c rfl (ih _ _ _)) (Kn_ite (Kn_c rfl (ih _ _ _)) (Kn_c rfl (ih _ _ _)))) (Kn_c rfl (ih _ _ _))
    | 8 =>
      refine Kn_eq (by rw [x_reduce]) ?_
      exact Kn_ob (Kn_c rfl (kn_operate _ _ _ _)) (fun _ h263 => Kn_ite (Kn_c h263 (ih _ _ _)) (Kn_c h263 (ih _ _ _)))
    | 9 =>
      refine Kn_eq (by rw [x_reduce]) ?_
      exact Kn_c rfl (ih _ _ _)
    | 10 =>
      refine Kn_eq (by rw [x_reduce]) ?_
      exact Kn_c rfl (ih _ _ _)
    | 11 =>
      refine Kn_eq (by rw [x_reduce]) ?_
      exact Kn_c rfl (ih _ _ _)
    | 12 =>
      refine Kn_eq (by rw [x_reduce]) ?_
      exact Kn_ite (Kn_c rfl (ih _ _ _)) (Kn_no _)
    | 13 =>
      refine Kn_eq (by rw [x_reduce]) ?_
      exact Kn_c rfl (ih _ _ _)
    | 14 =>
      refine Kn_eq (by rw [x_reduce]) ?_
      exact Kn_c rfl (ih _ _ _)
    | 15 =>
      refine Kn_eq (by rw [x_reduce]) ?_
      exact Kn_ite (Kn_ite (Kn_c rfl (ih _ _ _)) (Kn_no _)) (Kn_c rfl (ih _ _ _))
    | 16 =>
      refine Kn_eq (by rw [x_reduce]) ?_
      exact Kn_c rfl (ih _ _ _)
    | 17 =>
      refine Kn_eq (by rw [x_reduce]) ?_
      exact Kn_so rfl
    | b + 18 =>
      refine Kn_eq (by rw [x_reduce]) (Kn_no _)
theorem kn_single : ∀ (k b : Nat) (L : Nat → Int32) (σ : MS), Kn (x_single k b L σ) (kn σ) := by
  intro k
  induction k with
  | zero => intro b L σ; exact Kn_no _
  | succ k ih =>
    intro b L σ
    match b with
    | 0 =>
      refine Kn_eq (by rw [x_single]) ?_
      exact Kn_ite (Kn_ite (Kn_c rfl (ih _ _ _)) (Kn_ite (Kn_c rfl (ih _ _ _)) (Kn_ite (Kn_c rfl (ih _ _ _)) (Kn_ite (Kn_c rfl (ih _ _ _)) (Kn_c rfl (ih _ _ _)))))) (Kn_no _)
    | 1 =>
      refine Kn_eq (by rw [x_single]) ?_
      exact Kn_ite (Kn_ob (Kn_c rfl (kn_function _ _ _ _)) (fun _ h264 => Kn_so h264)) (Kn_no _)
    | 2 =>
      refine Kn_eq (by rw [x_single]) ?_
      exact Kn_ob (Kn_c rfl (kn_negative _ _ _ _)) (fun _ h265 => Kn_so h265)
    | 3 =>
      refine Kn_eq (by rw [x_single]) ?_
      exact Kn_ob (Kn_c rfl (kn_many _ _ _ _)) (fun _ h266 => Kn_so h266)
    | 4 =>
      refine Kn_eq (by rw [x_single]) ?_
      exact Kn_ob (Kn_c rfl (kn_turned _ _ _ _)) (fun _ h267 => Kn_so h267)
    | 5 =>
      refine Kn_eq (by rw [x_single]) ?_
      exact Kn_ite (Kn_ob (Kn_c rfl (kn_reduce _ _ _ _)) (fun _ h268 => Kn_so h268)) (Kn_no _)
    | b + 6 =>
      refine Kn_eq (by rw [x_single]) (Kn_no _)
theorem kn_range : ∀ (k b : Nat) (L : Nat → Int32) (σ : MS), Kn (x_range k b L σ) (kn σ) := by
  intro k
  induction k with
  | zero => intro b L σ; exact Kn_no _
  | succ k ih =>
    intro b L σ
    match b with
    | 0 =>
      refine Kn_eq (by rw [x_range]) ?_
      exact Kn_ob (Kn_c rfl (kn_pop _ _ _ _)) (fun _ h269 => Kn_ite (Kn_c h269 (ih _ _ _)) (Kn_ob (Kn_c h269 (kn_pop _ _ _ _)) (fun _ h270 => Kn_c h270 (ih _ _ _))))
    | 1 =>
      refine Kn_eq (by rw [x_range]) ?_
      exact Kn_c rfl (ih _ _ _)
    | 2 =>
      refine Kn_eq (by rw [x_range]) ?_
      exact Kn_ob (Kn_c rfl (kn_pop _ _ _ _)) (fun _ h271 => Kn_ob (Kn_c h271 (kn_kind _ _ _ _)) (fun _ h272 => Kn_ite (Kn_ob (Kn_c h272 (kn_kind _ _ _ _)) (fun _ h273 => Kn_ite (Kn_ite (Kn_c h273 (ih _ _ _)) (Kn_ob (Kn_c h273 (kn_kind _ _ _ _)) (fun _ h274 => Kn_ite (Kn_c h274 (ih _ _ _)) (Kn_c h274 (ih _ _ _))))) (Kn_c h273 (ih _ _ _)))) (Kn_c h272 (ih _ _ _))))
    | 3 =>
      refine Kn_eq (by rw [x_range]) ?_
      exact Kn_ob (Kn_c rfl (kn_wrongKind _ _ _ _)) (fun _ h275 => Kn_so h275)
    | 4 =>
      refine Kn_eq (by rw [x_range]) ?_
      exact Kn_ite (Kn_c rfl (ih _ _ _)) (Kn_ob (Kn_c rfl (kn_add _ _ _ _)) (fun _ h276 => Kn_c h276 (ih _ _ _)))
    | 5 =>
      refine Kn_eq (by rw [x_range]) ?_
      exact Kn_ob (Kn_c rfl (kn_small _ _ _ _)) (fun _ h277 => Kn_c h277 (ih _ _ _))
    | 6 =>
      refine Kn_eq (by rw [x_range]) ?_
      exact Kn_ite (Kn_c rfl (ih _ _ _)) (Kn_c rfl (ih _ _ _))
    | 7 =>
      refine Kn_eq (by rw [x_range]) ?_
      exact Kn_c rfl (ih _ _ _)
    | 8 =>
      refine Kn_eq (by rw [x_range]) ?_
      exact Kn_c rfl (ih _ _ _)
    | 9 =>
      refine Kn_eq (by rw [x_range]) ?_
      exact Kn_ite (Kn_c rfl (ih _ _ _)) (Kn_ob (Kn_c rfl (kn_compareWholes _ _ _ _)) (fun _ h278 => Kn_ite (Kn_c h278 (ih _ _ _)) (Kn_c h278 (ih _ _ _))))
    | 10 =>
      refine Kn_eq (by rw [x_range]) ?_
      exact Kn_c rfl (ih _ _ _)
    | 11 =>
      refine Kn_eq (by rw [x_range]) ?_
      exact Kn_ob (Kn_c rfl (kn_signOf _ _ _ _)) (fun _ h279 => Kn_c h279 (ih _ _ _))
    | 12 =>
      refine Kn_eq (by rw [x_range]) ?_
      exact Kn_ite (Kn_c rfl (ih _ _ _)) (Kn_c rfl (ih _ _ _))
    | 13 =>
      refine Kn_eq (by rw [x_range]) ?_
      exact Kn_c rfl (ih _ _ _)
    | 14 =>
      refine Kn_eq (by rw [x_range]) ?_
      exact Kn_c rfl (ih _ _ _)
    | 15 =>
      refine Kn_eq (by rw [x_range]) ?_
      exact Kn_ite (Kn_ite (Kn_c rfl (ih _ _ _)) (Kn_ite (Kn_c rfl (ih _ _ _)) (Kn_ob (Kn_c rfl (kn_compareWholes _ _ _ _)) (fun _ h280 => Kn_ite (Kn_c h280 (ih _ _ _)) (Kn_c h280 (ih _ _ _)))))) (Kn_c rfl (ih _ _ _))
    | 16 =>
      refine Kn_eq (by rw [x_range]) ?_
      exact Kn_ob (Kn_c rfl (kn_compareWholes _ _ _ _)) (fun _ h281 => Kn_ite (Kn_c h281 (ih _ _ _)) (Kn_c h281 (ih _ _ _)))
    | 17 =>
      refine Kn_eq (by rw [x_range]) ?_
      exact Kn_ob (Kn_c rfl (kn_push _ _ _ _)) (fun _ h282 => Kn_ite (Kn_c h282 (ih _ _ _)) (Kn_ob (Kn_c h282 (kn_fail _ _ _ _)) (fun _ h283 => Kn_c h283 (ih _ _ _))))
    | 18 =>
      refine Kn_eq (by rw [x_range]) ?_
      exact Kn_ite (Kn_c rfl (ih _ _ _)) (Kn_ite (Kn_c rfl (ih _ _ _)) (Kn_c rfl (ih _ _ _)))
    | 19 =>
      refine Kn_eq (by rw [x_range]) ?_
      exact Kn_c rfl (ih _ _ _)
    | 20 =>
      refine Kn_eq (by rw [x_range]) ?_
      exact Kn_c rfl (ih _ _ _)
    | 21 =>
      refine Kn_eq (by rw [x_range]) ?_
      exact Kn_ob (Kn_c rfl (kn_add _ _ _ _)) (fun _ h284 => Kn_ite (Kn_c h284 (ih _ _ _)) (Kn_c h284 (ih _ _ _)))
    | 22 =>
      refine Kn_eq (by rw [x_range]) ?_
      exact Kn_c rfl (ih _ _ _)
    | 23 =>
      refine Kn_eq (by rw [x_range]) ?_
      exact Kn_c rfl (ih _ _ _)
    | 24 =>
      refine Kn_eq (by rw [x_range]) ?_
      exact Kn_ite (Kn_c rfl (ih _ _ _)) (Kn_so rfl)
    | 25 =>
      refine Kn_eq (by rw [x_range]) ?_
      exact Kn_ite (Kn_c rfl (ih _ _ _)) (Kn_ob (Kn_c rfl (kn_setOf _ _ _ _)) (fun _ h285 => Kn_c h285 (ih _ _ _)))
    | 26 =>
      refine Kn_eq (by rw [x_range]) ?_
      exact Kn_ob (Kn_c rfl (kn_tupleOf _ _ _ _)) (fun _ h286 => Kn_c h286 (ih _ _ _))
    | 27 =>
      refine Kn_eq (by rw [x_range]) ?_
      exact Kn_so rfl
    | b + 28 =>
      refine Kn_eq (by rw [x_range]) (Kn_no _)
theorem kn_isOver : ∀ (k b : Nat) (L : Nat → Int32) (σ : MS), Kn (x_isOver k b L σ) (kn σ) := by
  intro k
  induction k with
  | zero => intro b L σ; exact Kn_no _
  | succ k ih =>
    intro b L σ
    match b with
    | 0 =>
      refine Kn_eq (by rw [x_isOver]) ?_
      exact Kn_ite (Kn_c rfl (ih _ _ _)) (Kn_ite (Kn_c rfl (ih _ _ _)) (Kn_ite (Kn_c rfl (ih _ _ _)) (Kn_ite (Kn_c rfl (ih _ _ _)) (Kn_ite (Kn_c rfl (ih _ _ _)) (Kn_ite (Kn_c rfl (ih _ _ _)) (Kn_ite (Kn_c rfl (ih _ _ _)) (Kn_c rfl (ih _ _ _))))))))
    | 1 =>
      refine Kn_eq (by rw [x_isOver]) ?_
      exact Kn_c rfl (ih _ _ _)
    | 2 =>
      refine Kn_eq (by rw [x_isOver]) ?_
      exact Kn_c rfl (ih _ _ _)
    | 3 =>
      refine Kn_eq (by rw [x_isOver]) ?_
      exact Kn_ite (Kn_so rfl) (Kn_no _)
    | b + 4 =>
      refine Kn_eq (by rw [x_isOver]) (Kn_no _)
theorem kn_bindOne : ∀ (k b : Nat) (L : Nat → Int32) (σ : MS), Kn (x_bindOne k b L σ) (kn σ) := by
  intro k
  induction k with
  | zero => intro b L σ; exact Kn_no _
  | succ k ih =>
    intro b L σ
    match b with
    | 0 =>
      refine Kn_eq (by rw [x_bindOne]) ?_
      exact Kn_ite (Kn_ite (Kn_ite (Kn_ite (Kn_c rfl (ih _ _ _)) (Kn_no _)) (Kn_no _)) (Kn_c rfl (ih _ _ _))) (Kn_no _)
    | 1 =>
      refine Kn_eq (by rw [x_bindOne]) ?_
      exact Kn_ite (Kn_c rfl (ih _ _ _)) (Kn_ite (Kn_ite (Kn_c rfl (ih _ _ _)) (Kn_no _)) (Kn_no _))
    | 2 =>
      refine Kn_eq (by rw [x_bindOne]) ?_
      exact Kn_ite (Kn_ite (Kn_ite (Kn_c rfl (ih _ _ _)) (Kn_no _)) (Kn_no _)) (Kn_no _)
    | 3 =>
      refine Kn_eq (by rw [x_bindOne]) ?_
      exact Kn_so rfl
    | b + 4 =>
      refine Kn_eq (by rw [x_bindOne]) (Kn_no _)
theorem kn_clear : ∀ (k b : Nat) (L : Nat → Int32) (σ : MS), Kn (x_clear k b L σ) (kn σ) := by
  intro k
  induction k with
  | zero => intro b L σ; exact Kn_no _
  | succ k ih =>
    intro b L σ
    match b with
    | 0 =>
      refine Kn_eq (by rw [x_clear]) ?_
      exact Kn_c rfl (ih _ _ _)
    | 1 =>
      refine Kn_eq (by rw [x_clear]) ?_
      exact Kn_ite (Kn_c rfl (ih _ _ _)) (Kn_ite (Kn_c rfl (ih _ _ _)) (Kn_no _))
    | 2 =>
      refine Kn_eq (by rw [x_clear]) ?_
      exact Kn_ite (Kn_c rfl (ih _ _ _)) (Kn_ob (Kn_c rfl (kn_bindOne _ _ _ _)) (fun _ h287 => Kn_ite (Kn_c h287 (ih _ _ _)) (Kn_no _)))
    | 3 =>
      refine Kn_eq (by rw [x_clear]) ?_
      exact Kn_ite (Kn_c rfl (ih _ _ _)) (Kn_no _)
    | 4 =>
      refine Kn_eq (by rw [x_clear]) ?_
      exact Kn_so rfl
    | b + 5 =>
      refine Kn_eq (by rw [x_clear]) (Kn_no _)
theorem kn_bind : ∀ (k b : Nat) (L : Nat → Int32) (σ : MS), Kn (x_bind k b L σ) (kn σ) := by
  intro k
  induction k with
  | zero => intro b L σ; exact Kn_no _
  | succ k ih =>
    intro b L σ
    match b with
    | 0 =>
      refine Kn_eq (by rw [x_bind]) ?_
      exact Kn_ite (Kn_ite (Kn_ite (Kn_ob (Kn_c rfl (kn_bindOne _ _ _ _)) (fun _ h288 => Kn_so h288)) (Kn_no _)) (Kn_c rfl (ih _ _ _))) (Kn_no _)
    | 1 =>
      refine Kn_eq (by rw [x_bind]) ?_
      exact Kn_ite (Kn_c rfl (ih _ _ _)) (Kn_no _)
    | 2 =>
      refine Kn_eq (by rw [x_bind]) ?_
      exact Kn_ite (Kn_c rfl (ih _ _ _)) (Kn_ite (Kn_c rfl (ih _ _ _)) (Kn_no _))
    | 3 =>
      refine Kn_eq (by rw [x_bind]) ?_
      exact Kn_ob (Kn_c rfl (kn_kind _ _ _ _)) (fun _ h289 => Kn_ite (Kn_ite (Kn_ite (Kn_c h289 (ih _ _ _)) (Kn_c h289 (ih _ _ _))) (Kn_no _)) (Kn_c h289 (ih _ _ _)))
    | 4 =>
      refine Kn_eq (by rw [x_bind]) ?_
      exact Kn_ob (Kn_c rfl (kn_fail _ _ _ _)) (fun _ h290 => Kn_so h290)
    | 5 =>
      refine Kn_eq (by rw [x_bind]) ?_
      exact Kn_ite (Kn_c rfl (ih _ _ _)) (Kn_no _)
    | 6 =>
      refine Kn_eq (by rw [x_bind]) ?_
      exact Kn_ite (Kn_c rfl (ih _ _ _)) (Kn_ite (Kn_ite (Kn_c rfl (ih _ _ _)) (Kn_ite (Kn_c rfl (ih _ _ _)) (Kn_no _))) (Kn_no _))
    | 7 =>
      refine Kn_eq (by rw [x_bind]) ?_
      exact Kn_c rfl (ih _ _ _)
    | 8 =>
      refine Kn_eq (by rw [x_bind]) ?_
      exact Kn_ob (Kn_c rfl (kn_bindOne _ _ _ _)) (fun _ h291 => Kn_ite (Kn_c h291 (ih _ _ _)) (Kn_no _))
    | 9 =>
      refine Kn_eq (by rw [x_bind]) ?_
      exact Kn_so rfl
    | b + 10 =>
      refine Kn_eq (by rw [x_bind]) (Kn_no _)
theorem kn_stepIter : ∀ (k b : Nat) (L : Nat → Int32) (σ : MS), Kn (x_stepIter k b L σ) (kn σ) := by
  intro k
  induction k with
  | zero => intro b L σ; exact Kn_no _
  | succ k ih =>
    intro b L σ
    match b with
    | 0 =>
      refine Kn_eq (by rw [x_stepIter]) ?_
      exact Kn_ite (Kn_ite (Kn_ite (Kn_ite (Kn_so rfl) (Kn_c rfl (ih _ _ _))) (Kn_no _)) (Kn_no _)) (Kn_no _)
    | 1 =>
      refine Kn_eq (by rw [x_stepIter]) ?_
      exact Kn_ite (Kn_c rfl (ih _ _ _)) (Kn_no _)
    | 2 =>
      refine Kn_eq (by rw [x_stepIter]) ?_
      exact Kn_ob (Kn_c rfl (kn_worked _ _ _ _)) (fun _ h292 => Kn_ite (Kn_ob (Kn_c h292 (kn_memberAt _ _ _ _)) (fun _ h293 => Kn_ob (Kn_c h293 (kn_bind _ _ _ _)) (fun _ h294 => Kn_c h294 (ih _ _ _)))) (Kn_c h292 (ih _ _ _)))
    | 3 =>
      refine Kn_eq (by rw [x_stepIter]) ?_
      exact Kn_ite (Kn_c rfl (ih _ _ _)) (Kn_c rfl (ih _ _ _))
    | 4 =>
      refine Kn_eq (by rw [x_stepIter]) ?_
      exact Kn_c rfl (ih _ _ _)
    | 5 =>
      refine Kn_eq (by rw [x_stepIter]) ?_
      exact Kn_ite (Kn_so rfl) (Kn_no _)
    | b + 6 =>
      refine Kn_eq (by rw [x_stepIter]) (Kn_no _)
theorem kn_isTrue : ∀ (k b : Nat) (L : Nat → Int32) (σ : MS), Kn (x_isTrue k b L σ) (kn σ) := by
  intro k
  induction k with
  | zero => intro b L σ; exact Kn_no _
  | succ k ih =>
    intro b L σ
    match b with
    | 0 =>
      refine Kn_eq (by rw [x_isTrue]) ?_
      exact Kn_ob (Kn_c rfl (kn_pop _ _ _ _)) (fun _ h295 => Kn_ite (Kn_c h295 (ih _ _ _)) (Kn_ite (Kn_c h295 (ih _ _ _)) (Kn_ob (Kn_c h295 (kn_fail _ _ _ _)) (fun _ h296 => Kn_c h296 (ih _ _ _)))))
    | 1 =>
      refine Kn_eq (by rw [x_isTrue]) ?_
      exact Kn_ite (Kn_c rfl (ih _ _ _)) (Kn_c rfl (ih _ _ _))
    | 2 =>
      refine Kn_eq (by rw [x_isTrue]) ?_
      exact Kn_c rfl (ih _ _ _)
    | 3 =>
      refine Kn_eq (by rw [x_isTrue]) ?_
      exact Kn_ite (Kn_so rfl) (Kn_no _)
    | b + 4 =>
      refine Kn_eq (by rw [x_isTrue]) (Kn_no _)
theorem kn_isSlice : ∀ (k b : Nat) (L : Nat → Int32) (σ : MS), Kn (x_isSlice k b L σ) (kn σ) := by
  intro k
  induction k with
  | zero => intro b L σ; exact Kn_no _
  | succ k ih =>
    intro b L σ
    match b with
    | 0 =>
      refine Kn_eq (by rw [x_isSlice]) ?_
      exact Kn_ob (Kn_c rfl (kn_kind _ _ _ _)) (fun _ h297 => Kn_ite (Kn_c h297 (ih _ _ _)) (Kn_ite (Kn_c h297 (ih _ _ _)) (Kn_c h297 (ih _ _ _))))
    | 1 =>
      refine Kn_eq (by rw [x_isSlice]) ?_
      exact Kn_ob (Kn_c rfl (kn_kind _ _ _ _)) (fun _ h298 => Kn_ite (Kn_ob (Kn_c h298 (kn_kind _ _ _ _)) (fun _ h299 => Kn_ite (Kn_c h299 (ih _ _ _)) (Kn_c h299 (ih _ _ _)))) (Kn_c h298 (ih _ _ _)))
    | 2 =>
      refine Kn_eq (by rw [x_isSlice]) ?_
      exact Kn_ob (Kn_c rfl (kn_fail _ _ _ _)) (fun _ h300 => Kn_so h300)
    | 3 =>
      refine Kn_eq (by rw [x_isSlice]) ?_
      exact Kn_ob (Kn_c rfl (kn_intOf _ _ _ _ _)) (fun _ h301 => Kn_c h301 (ih _ _ _))
    | 4 =>
      refine Kn_eq (by rw [x_isSlice]) ?_
      exact Kn_ob (Kn_c rfl (kn_intOf _ _ _ _ _)) (fun _ h302 => Kn_c h302 (ih _ _ _))
    | 5 =>
      refine Kn_eq (by rw [x_isSlice]) ?_
      exact Kn_so rfl
    | b + 6 =>
      refine Kn_eq (by rw [x_isSlice]) (Kn_no _)
theorem kn_isSliceIn : ∀ (k b : Nat) (L : Nat → Int32) (σ : MS), Kn (x_isSliceIn k b L σ) (kn σ) := by
  intro k
  induction k with
  | zero => intro b L σ; exact Kn_no _
  | succ k ih =>
    intro b L σ
    match b with
    | 0 =>
      refine Kn_eq (by rw [x_isSliceIn]) ?_
      exact Kn_ite (Kn_c rfl (ih _ _ _)) (Kn_ite (Kn_c rfl (ih _ _ _)) (Kn_ite (Kn_ite (Kn_c rfl (ih _ _ _)) (Kn_c rfl (ih _ _ _))) (Kn_no _)))
    | 1 =>
      refine Kn_eq (by rw [x_isSliceIn]) ?_
      exact Kn_ob (Kn_c rfl (kn_fail _ _ _ _)) (fun _ h303 => Kn_so h303)
    | 2 =>
      refine Kn_eq (by rw [x_isSliceIn]) ?_
      exact Kn_so rfl
    | b + 3 =>
      refine Kn_eq (by rw [x_isSliceIn]) (Kn_no _)
theorem kn_stringOf__28 : ∀ (k b : Nat) (L : Nat → Int32) (σ : MS), Kn (x_stringOf__28 k b L σ) (kn σ) := by
  intro k
  induction k with
  | zero => intro b L σ; exact Kn_no _
  | succ k ih =>
    intro b L σ
    match b with
    | 0 =>
      refine Kn_eq (by rw [x_stringOf__28]) ?_
      exact Kn_ite (Kn_no _) (Kn_ite (Kn_c rfl (ih _ _ _)) (Kn_ob (Kn_c rfl (kn_fail _ _ _ _)) (fun _ h304 => Kn_so h304)))
    | 1 =>
      refine Kn_eq (by rw [x_stringOf__28]) ?_
      exact Kn_ob (Kn_c rfl (kn_make _ _ _ _)) (fun _ h305 => Kn_c h305 (ih _ _ _))
    | 2 =>
      refine Kn_eq (by rw [x_stringOf__28]) ?_
      exact Kn_ite (Kn_c rfl (ih _ _ _)) (Kn_ite (Kn_ite (Kn_ite (Kn_c rfl (ih _ _ _)) (Kn_no _)) (Kn_no _)) (Kn_c rfl (ih _ _ _)))
    | 3 =>
      refine Kn_eq (by rw [x_stringOf__28]) ?_
      exact Kn_c rfl (ih _ _ _)
    | 4 =>
      refine Kn_eq (by rw [x_stringOf__28]) ?_
      exact Kn_ite (Kn_no _) (Kn_ite (Kn_c rfl (ih _ _ _)) (Kn_no _))
    | 5 =>
      refine Kn_eq (by rw [x_stringOf__28]) ?_
      exact Kn_so rfl
    | b + 6 =>
      refine Kn_eq (by rw [x_stringOf__28]) (Kn_no _)
theorem kn_slice : ∀ (k b : Nat) (L : Nat → Int32) (σ : MS), Kn (x_slice k b L σ) (kn σ) := by
  intro k
  induction k with
  | zero => intro b L σ; exact Kn_no _
  | succ k ih =>
    intro b L σ
    match b with
    | 0 =>
      refine Kn_eq (by rw [x_slice]) ?_
      exact Kn_ob (Kn_c rfl (kn_isSlice _ _ _ _)) (fun _ h306 => Kn_ite (Kn_c h306 (ih _ _ _)) (Kn_ob (Kn_c h306 (kn_isSliceIn _ _ _ _)) (fun _ h307 => Kn_ite (Kn_c h307 (ih _ _ _)) (Kn_c h307 (ih _ _ _)))))
    | 1 =>
      refine Kn_eq (by rw [x_slice]) ?_
      exact Kn_so rfl
    | 2 =>
      refine Kn_eq (by rw [x_slice]) ?_
      exact Kn_ite (Kn_ite (Kn_ob (Kn_c rfl (kn_stringOf__28 _ _ _ _)) (fun _ h308 => Kn_so h308)) (Kn_c rfl (ih _ _ _))) (Kn_no _)
    | 3 =>
      refine Kn_eq (by rw [x_slice]) ?_
      exact Kn_c rfl (ih _ _ _)
    | 4 =>
      refine Kn_eq (by rw [x_slice]) ?_
      exact Kn_ite (Kn_c rfl (ih _ _ _)) (Kn_ite (Kn_ob (Kn_c rfl (kn_push _ _ _ _)) (fun _ h309 => Kn_c h309 (ih _ _ _))) (Kn_no _))
    | 5 =>
      refine Kn_eq (by rw [x_slice]) ?_
      exact Kn_ob (Kn_c rfl (kn_tupleOf _ _ _ _)) (fun _ h310 => Kn_so h310)
    | b + 6 =>
      refine Kn_eq (by rw [x_slice]) (Kn_no _)
theorem kn_partAt : ∀ (k b : Nat) (L : Nat → Int32) (σ : MS), Kn (x_partAt k b L σ) (kn σ) := by
  intro k
  induction k with
  | zero => intro b L σ; exact Kn_no _
  | succ k ih =>
    intro b L σ
    match b with
    | 0 =>
      refine Kn_eq (by rw [x_partAt]) ?_
      exact Kn_ob (Kn_c rfl (kn_kind _ _ _ _)) (fun _ h311 => Kn_ite (Kn_c h311 (ih _ _ _)) (Kn_ite (Kn_c h311 (ih _ _ _)) (Kn_c h311 (ih _ _ _))))
    | 1 =>
      refine Kn_eq (by rw [x_partAt]) ?_
      exact Kn_ob (Kn_c rfl (kn_kind _ _ _ _)) (fun _ h312 => Kn_ite (Kn_c h312 (ih _ _ _)) (Kn_ob (Kn_c h312 (kn_wrongKind _ _ _ _)) (fun _ h313 => Kn_so h313)))
    | 2 =>
      refine Kn_eq (by rw [x_partAt]) ?_
      exact Kn_ob (Kn_c rfl (kn_intOf _ _ _ _ _)) (fun _ h314 => Kn_ite (Kn_c h314 (ih _ _ _)) (Kn_ob (Kn_c h314 (kn_fail _ _ _ _)) (fun _ h315 => Kn_so h315)))
    | 3 =>
      refine Kn_eq (by rw [x_partAt]) ?_
      exact Kn_ite (Kn_ite (Kn_c rfl (ih _ _ _)) (Kn_c rfl (ih _ _ _))) (Kn_no _)
    | 4 =>
      refine Kn_eq (by rw [x_partAt]) ?_
      exact Kn_ob (Kn_c rfl (kn_memberAt _ _ _ _)) (fun _ h316 => Kn_c h316 (ih _ _ _))
    | 5 =>
      refine Kn_eq (by rw [x_partAt]) ?_
      exact Kn_so rfl
    | 6 =>
      refine Kn_eq (by rw [x_partAt]) ?_
      exact Kn_ob (Kn_c rfl (kn_isMap _ _ _ _)) (fun _ h317 => Kn_ite (Kn_ob (Kn_c h317 (kn_wrongKind _ _ _ _)) (fun _ h318 => Kn_so h318)) (Kn_c h317 (ih _ _ _)))
    | 7 =>
      refine Kn_eq (by rw [x_partAt]) ?_
      exact Kn_c rfl (ih _ _ _)
    | 8 =>
      refine Kn_eq (by rw [x_partAt]) ?_
      exact Kn_ite (Kn_ite (Kn_c rfl (ih _ _ _)) (Kn_ite (Kn_ite (Kn_ob (Kn_c rfl (kn_compare _ _ _ _)) (fun _ h319 => Kn_ite (Kn_ite (Kn_c h319 (ih _ _ _)) (Kn_no _)) (Kn_c h319 (ih _ _ _)))) (Kn_no _)) (Kn_no _))) (Kn_no _)
    | 9 =>
      refine Kn_eq (by rw [x_partAt]) ?_
      exact Kn_c rfl (ih _ _ _)
    | 10 =>
      refine Kn_eq (by rw [x_partAt]) ?_
      exact Kn_ite (Kn_c rfl (ih _ _ _)) (Kn_c rfl (ih _ _ _))
    | 11 =>
      refine Kn_eq (by rw [x_partAt]) ?_
      exact Kn_c rfl (ih _ _ _)
    | 12 =>
      refine Kn_eq (by rw [x_partAt]) ?_
      exact Kn_so rfl
    | b + 13 =>
      refine Kn_eq (by rw [x_partAt]) (Kn_no _)
theorem kn_image : ∀ (k b : Nat) (L : Nat → Int32) (σ : MS), Kn (x_image k b L σ) (kn σ) := by
  intro k
  induction k with
  | zero => intro b L σ; exact Kn_no _
  | succ k ih =>
    intro b L σ
    match b with
    | 0 =>
      refine Kn_eq (by rw [x_image]) ?_
      exact Kn_ob (Kn_c rfl (kn_isMap _ _ _ _)) (fun _ h320 => Kn_ite (Kn_ob (Kn_c h320 (kn_wrongKind _ _ _ _)) (fun _ h321 => Kn_so h321)) (Kn_c h320 (ih _ _ _)))
    | 1 =>
      refine Kn_eq (by rw [x_image]) ?_
      exact Kn_c rfl (ih _ _ _)
    | 2 =>
      refine Kn_eq (by rw [x_image]) ?_
      exact Kn_ite (Kn_ite (Kn_c rfl (ih _ _ _)) (Kn_ite (Kn_ite (Kn_ob (Kn_c rfl (kn_compare _ _ _ _)) (fun _ h322 => Kn_ite (Kn_ite (Kn_ob (Kn_c h322 (kn_push _ _ _ _)) (fun _ h323 => Kn_c h323 (ih _ _ _))) (Kn_no _)) (Kn_c h322 (ih _ _ _)))) (Kn_no _)) (Kn_no _))) (Kn_no _)
    | 3 =>
      refine Kn_eq (by rw [x_image]) ?_
      exact Kn_c rfl (ih _ _ _)
    | 4 =>
      refine Kn_eq (by rw [x_image]) ?_
      exact Kn_ob (Kn_c rfl (kn_setOf _ _ _ _)) (fun _ h324 => Kn_so h324)
    | b + 5 =>
      refine Kn_eq (by rw [x_image]) (Kn_no _)
theorem kn_isRow : ∀ (k b : Nat) (L : Nat → Int32) (σ : MS), Kn (x_isRow k b L σ) (kn σ) := by
  intro k
  induction k with
  | zero => intro b L σ; exact Kn_no _
  | succ k ih =>
    intro b L σ
    match b with
    | 0 =>
      refine Kn_eq (by rw [x_isRow]) ?_
      exact Kn_ob (Kn_c rfl (kn_kind _ _ _ _)) (fun _ h325 => Kn_ite (Kn_c h325 (ih _ _ _)) (Kn_c h325 (ih _ _ _)))
    | 1 =>
      refine Kn_eq (by rw [x_isRow]) ?_
      exact Kn_c rfl (ih _ _ _)
    | 2 =>
      refine Kn_eq (by rw [x_isRow]) ?_
      exact Kn_ite (Kn_so rfl) (Kn_no _)
    | b + 3 =>
      refine Kn_eq (by rw [x_isRow]) (Kn_no _)
theorem kn_s_begins {X : Nat → Nat → Nat → (Nat → Int32) → MS → Option (Int32 × MS)} (hX : ∀ e m b L (σ : MS), Kn (X e m b L σ) (kn σ)) (k d b : Nat) (L : Nat → Int32) (σ : MS) : Kn (s_begins X k d b L σ) (kn σ) := by
  match b with
  | 0 => exact Kn_ite (Kn_c rfl (hX _ _ _ _ _)) (Kn_so rfl)
  | 1 => exact Kn_ite (Kn_ite (Kn_c rfl (hX _ _ _ _ _)) (Kn_ite (Kn_c rfl (hX _ _ _ _ _)) (Kn_ite (Kn_c rfl (hX _ _ _ _ _)) (Kn_ite (Kn_c rfl (hX _ _ _ _ _)) (Kn_ite (Kn_c rfl (hX _ _ _ _ _)) (Kn_ite (Kn_c rfl (hX _ _ _ _ _)) (Kn_ite (Kn_c rfl (hX _ _ _ _ _)) (Kn_ite (Kn_c rfl (hX _ _ _ _ _)) (Kn_ite (Kn_c rfl (hX _ _ _ _ _)) (Kn_ite (Kn_c rfl (hX _ _ _ _ _)) (Kn_ite (Kn_c rfl (hX _ _ _ _ _)) (Kn_ite (Kn_c rfl (hX _ _ _ _ _)) (Kn_ite (Kn_c rfl (hX _ _ _ _ _)) (Kn_ite (Kn_c rfl (hX _ _ _ _ _)) (Kn_ite (Kn_c rfl (hX _ _ _ _ _)) (Kn_c rfl (hX _ _ _ _ _))))))))))))))))) (Kn_no _)
  | 2 => exact Kn_ob (Kn_c rfl (kn_sweep _ _ _ _)) (fun _ h326 => Kn_ite (Kn_ite (Kn_ob (Kn_c h326 (kn_literal _ _ _ _)) (fun _ h327 => Kn_ob (Kn_c h327 (kn_answer _ _ _ _)) (fun _ h328 => Kn_ob (Kn_c h328 (kn_push _ _ _ _)) (fun _ h329 => Kn_so h329)))) (Kn_no _)) (Kn_no _))
  | 3 => exact Kn_ob (Kn_c rfl (kn_sweep _ _ _ _)) (fun _ h330 => Kn_ite (Kn_ite (Kn_ob (Kn_c h330 (kn_stringOf__12 _ _ _ _)) (fun _ h331 => Kn_ob (Kn_c h331 (kn_answer _ _ _ _)) (fun _ h332 => Kn_ob (Kn_c h332 (kn_push _ _ _ _)) (fun _ h333 => Kn_so h333)))) (Kn_no _)) (Kn_no _))
  | 4 => exact Kn_ob (Kn_c rfl (kn_push _ _ _ _)) (fun _ h334 => Kn_so h334)
  | 5 => exact Kn_ob (Kn_c rfl (kn_push _ _ _ _)) (fun _ h335 => Kn_so h335)
  | 6 => exact Kn_ob (Kn_c rfl (kn_push _ _ _ _)) (fun _ h336 => Kn_so h336)
  | 7 => exact Kn_ob (Kn_c rfl (kn_sweep _ _ _ _)) (fun _ h337 => Kn_ob (Kn_c h337 (kn_newAtom _ _ _ _)) (fun _ h338 => Kn_ob (Kn_c h338 (kn_answer _ _ _ _)) (fun _ h339 => Kn_ob (Kn_c h339 (kn_push _ _ _ _)) (fun _ h340 => Kn_so h340))))
  | 8 => exact Kn_ob (Kn_c rfl (kn_valueOf _ _ _ _)) (fun _ h341 => Kn_ob (Kn_c h341 (kn_push _ _ _ _)) (fun _ h342 => Kn_so h342))
  | 9 => exact Kn_od (fun _ => Kn_ob (Kn_c rfl (hX _ _ _ _ _)) (fun _ h343 => Kn_so h343))
  | 10 => exact Kn_od (fun _ => Kn_ob (Kn_c rfl (hX _ _ _ _ _)) (fun _ h344 => Kn_so h344))
  | 11 => exact Kn_od (fun _ => Kn_ob (Kn_c rfl (hX _ _ _ _ _)) (fun _ h345 => Kn_so h345))
  | 12 => exact Kn_od (fun _ => Kn_ob (Kn_c rfl (hX _ _ _ _ _)) (fun _ h346 => Kn_so h346))
  | 13 => exact Kn_od (fun _ => Kn_ob (Kn_c rfl (hX _ _ _ _ _)) (fun _ h347 => Kn_so h347))
  | 14 => exact Kn_od (fun _ => Kn_ob (Kn_c rfl (hX _ _ _ _ _)) (fun _ h348 => Kn_so h348))
  | 15 => exact Kn_od (fun _ => Kn_ob (Kn_c rfl (hX _ _ _ _ _)) (fun _ h349 => Kn_so h349))
  | 16 => exact Kn_ite (Kn_od (fun _ => Kn_ob (Kn_c rfl (hX _ _ _ _ _)) (fun _ h350 => Kn_ite (Kn_ob (Kn_c h350 (kn_sweep _ _ _ _)) (fun _ h351 => Kn_ob (Kn_c h351 (kn_pop _ _ _ _)) (fun _ h352 => Kn_ob (Kn_c h352 (kn_single _ _ _ _)) (fun _ h353 => Kn_ob (Kn_c h353 (kn_answer _ _ _ _)) (fun _ h354 => Kn_ob (Kn_c h354 (kn_push _ _ _ _)) (fun _ h355 => Kn_c h355 (hX _ _ _ _ _))))))) (Kn_c h350 (hX _ _ _ _ _))))) (Kn_no _)
  | 17 => exact Kn_so rfl
  | b + 18 => exact Kn_no _
theorem kn_s_bounds {X : Nat → Nat → Nat → (Nat → Int32) → MS → Option (Int32 × MS)} (hX : ∀ e m b L (σ : MS), Kn (X e m b L σ) (kn σ)) (k d b : Nat) (L : Nat → Int32) (σ : MS) : Kn (s_bounds X k d b L σ) (kn σ) := by
  match b with
  | 0 => exact Kn_ite (Kn_od (fun _ => Kn_ob (Kn_c rfl (hX _ _ _ _ _)) (fun _ h356 => Kn_ite (Kn_ite (Kn_c h356 (hX _ _ _ _ _)) (Kn_ite (Kn_ite (Kn_od (fun _ => Kn_ob (Kn_c h356 (hX _ _ _ _ _)) (fun _ h357 => Kn_c h357 (hX _ _ _ _ _)))) (Kn_no _)) (Kn_c h356 (hX _ _ _ _ _)))) (Kn_no _)))) (Kn_no _)
  | 1 => exact Kn_ite (Kn_ite (Kn_od (fun _ => Kn_ob (Kn_c rfl (hX _ _ _ _ _)) (fun _ h358 => Kn_c h358 (hX _ _ _ _ _)))) (Kn_no _)) (Kn_c rfl (hX _ _ _ _ _))
  | 2 => exact Kn_ite (Kn_ob (Kn_c rfl (kn_sweep _ _ _ _)) (fun _ h359 => Kn_ite (Kn_ite (Kn_c h359 (hX _ _ _ _ _)) (Kn_c h359 (hX _ _ _ _ _))) (Kn_no _))) (Kn_c rfl (hX _ _ _ _ _))
  | 3 => exact Kn_c rfl (hX _ _ _ _ _)
  | 4 => exact Kn_ite (Kn_ite (Kn_c rfl (hX _ _ _ _ _)) (Kn_c rfl (hX _ _ _ _ _))) (Kn_no _)
  | 5 => exact Kn_c rfl (hX _ _ _ _ _)
  | 6 => exact Kn_ob (Kn_c rfl (kn_range _ _ _ _)) (fun _ h360 => Kn_ob (Kn_c h360 (kn_answer _ _ _ _)) (fun _ h361 => Kn_ob (Kn_c h361 (kn_push _ _ _ _)) (fun _ h362 => Kn_c h362 (hX _ _ _ _ _))))
  | 7 => exact Kn_so rfl
  | b + 8 => exact Kn_no _
theorem kn_s_callFunc {X : Nat → Nat → Nat → (Nat → Int32) → MS → Option (Int32 × MS)} (hX : ∀ e m b L (σ : MS), Kn (X e m b L σ) (kn σ)) (k d b : Nat) (L : Nat → Int32) (σ : MS) : Kn (s_callFunc X k d b L σ) (kn σ) := by
  match b with
  | 0 => exact Kn_ite (Kn_c rfl (hX _ _ _ _ _)) (Kn_no _)
  | 1 => exact Kn_ite (Kn_c rfl (hX _ _ _ _ _)) (Kn_ite (Kn_od (fun _ => Kn_ob (Kn_c rfl (hX _ _ _ _ _)) (fun _ h363 => Kn_ite (Kn_c h363 (hX _ _ _ _ _)) (Kn_no _)))) (Kn_c rfl (hX _ _ _ _ _)))
  | 2 => exact Kn_ite (Kn_c rfl (hX _ _ _ _ _)) (Kn_so rfl)
  | 3 => exact Kn_ite (Kn_c rfl (hX _ _ _ _ _)) (Kn_ite (Kn_ite (Kn_c rfl (hX _ _ _ _ _)) (Kn_c rfl (hX _ _ _ _ _))) (Kn_no _))
  | 4 => exact Kn_ob (Kn_c rfl (kn_fail _ _ _ _)) (fun _ h364 => Kn_so h364)
  | 5 => exact Kn_ob (Kn_c rfl (kn_sweep _ _ _ _)) (fun _ h365 => Kn_ite (Kn_c h365 (hX _ _ _ _ _)) (Kn_no _))
  | 6 => exact Kn_ite (Kn_c rfl (hX _ _ _ _ _)) (Kn_no _)
  | 7 => exact Kn_c rfl (hX _ _ _ _ _)
  | 8 => exact Kn_c rfl (hX _ _ _ _ _)
  | 9 => exact Kn_c rfl (hX _ _ _ _ _)
  | 10 => exact Kn_ite (Kn_c rfl (hX _ _ _ _ _)) (Kn_ite (Kn_ite (Kn_c rfl (hX _ _ _ _ _)) (Kn_ite (Kn_c rfl (hX _ _ _ _ _)) (Kn_no _))) (Kn_no _))
  | 11 => exact Kn_c rfl (hX _ _ _ _ _)
  | 12 => exact Kn_ite (Kn_c rfl (hX _ _ _ _ _)) (Kn_no _)
  | 13 => exact Kn_c rfl (hX _ _ _ _ _)
  | 14 => exact Kn_c rfl (hX _ _ _ _ _)
  | 15 => exact Kn_ite (Kn_od (fun _ => Kn_ob (Kn_c rfl (hX _ _ _ _ _)) (fun _ h366 => Kn_c h366 (hX _ _ _ _ _)))) (Kn_no _)
  | 16 => exact Kn_ite (Kn_c rfl (hX _ _ _ _ _)) (Kn_ite (Kn_c rfl (hX _ _ _ _ _)) (Kn_no _))
  | 17 => exact Kn_c rfl (hX _ _ _ _ _)
  | 18 => exact Kn_c rfl (hX _ _ _ _ _)
  | 19 => exact Kn_ite (Kn_c rfl (hX _ _ _ _ _)) (Kn_no _)
  | 20 => exact Kn_c rfl (hX _ _ _ _ _)
  | 21 => exact Kn_ite (Kn_c rfl (hX _ _ _ _ _)) (Kn_no _)
  | 22 => exact Kn_ite (Kn_ite (Kn_ob (Kn_c rfl (kn_answer _ _ _ _)) (fun _ h367 => Kn_c h367 (hX _ _ _ _ _))) (Kn_no _)) (Kn_c rfl (hX _ _ _ _ _))
  | 23 => exact Kn_so rfl
  | b + 24 => exact Kn_no _
theorem kn_s_choose {X : Nat → Nat → Nat → (Nat → Int32) → MS → Option (Int32 × MS)} (hX : ∀ e m b L (σ : MS), Kn (X e m b L σ) (kn σ)) (k d b : Nat) (L : Nat → Int32) (σ : MS) : Kn (s_choose X k d b L σ) (kn σ) := by
  match b with
  | 0 => exact Kn_ite (Kn_c rfl (hX _ _ _ _ _)) (Kn_no _)
  | 1 => exact Kn_ite (Kn_c rfl (hX _ _ _ _ _)) (Kn_ite (Kn_ite (Kn_ite (Kn_c rfl (hX _ _ _ _ _)) (Kn_ite (Kn_od (fun _ => Kn_ob (Kn_c rfl (hX _ _ _ _ _)) (fun _ h368 => Kn_ite (Kn_c h368 (hX _ _ _ _ _)) (Kn_c h368 (hX _ _ _ _ _))))) (Kn_no _))) (Kn_no _)) (Kn_c rfl (hX _ _ _ _ _)))
  | 2 => exact Kn_c rfl (hX _ _ _ _ _)
  | 3 => exact Kn_ite (Kn_c rfl (hX _ _ _ _ _)) (Kn_no _)
  | 4 => exact Kn_ite (Kn_ite (Kn_od (fun _ => Kn_ob (Kn_c rfl (hX _ _ _ _ _)) (fun _ h369 => Kn_c h369 (hX _ _ _ _ _)))) (Kn_no _)) (Kn_c rfl (hX _ _ _ _ _))
  | 5 => exact Kn_so rfl
  | b + 6 => exact Kn_no _
theorem kn_s_eval {X : Nat → Nat → Nat → (Nat → Int32) → MS → Option (Int32 × MS)} (hX : ∀ e m b L (σ : MS), Kn (X e m b L σ) (kn σ)) (k d b : Nat) (L : Nat → Int32) (σ : MS) : Kn (s_eval X k d b L σ) (kn σ) := by
  match b with
  | 0 => exact Kn_c rfl (hX _ _ _ _ _)
  | 1 => exact Kn_ite (Kn_ob (Kn_c rfl (kn_isOver _ _ _ _)) (fun _ h370 => Kn_ite (Kn_c h370 (hX _ _ _ _ _)) (Kn_ite (Kn_c h370 (hX _ _ _ _ _)) (Kn_no _)))) (Kn_no _)
  | 2 => exact Kn_od (fun _ => Kn_ob (Kn_c rfl (hX _ _ _ _ _)) (fun _ h371 => Kn_c h371 (hX _ _ _ _ _)))
  | 3 => exact Kn_ite (Kn_c rfl (hX _ _ _ _ _)) (Kn_ite (Kn_ite (Kn_od (fun _ => Kn_ob (Kn_c rfl (hX _ _ _ _ _)) (fun _ h372 => Kn_c h372 (hX _ _ _ _ _)))) (Kn_no _)) (Kn_c rfl (hX _ _ _ _ _)))
  | 4 => exact Kn_so rfl
  | b + 5 => exact Kn_no _
theorem kn_s_former {X : Nat → Nat → Nat → (Nat → Int32) → MS → Option (Int32 × MS)} (hX : ∀ e m b L (σ : MS), Kn (X e m b L σ) (kn σ)) (k d b : Nat) (L : Nat → Int32) (σ : MS) : Kn (s_former X k d b L σ) (kn σ) := by
  match b with
  | 0 => exact Kn_ite (Kn_od (fun _ => Kn_ob (Kn_c rfl (hX _ _ _ _ _)) (fun _ h373 => Kn_c h373 (hX _ _ _ _ _)))) (Kn_no _)
  | 1 => exact Kn_ite (Kn_c rfl (hX _ _ _ _ _)) (Kn_ite (Kn_ite (Kn_ite (Kn_c rfl (hX _ _ _ _ _)) (Kn_ite (Kn_od (fun _ => Kn_ob (Kn_c rfl (hX _ _ _ _ _)) (fun _ h374 => Kn_ite (Kn_c h374 (hX _ _ _ _ _)) (Kn_c h374 (hX _ _ _ _ _))))) (Kn_no _))) (Kn_no _)) (Kn_c rfl (hX _ _ _ _ _)))
  | 2 => exact Kn_ite (Kn_od (fun _ => Kn_ob (Kn_c rfl (hX _ _ _ _ _)) (fun _ h375 => Kn_ite (Kn_ite (Kn_ite (Kn_ite (Kn_ite (Kn_ob (Kn_c h375 (kn_fail _ _ _ _)) (fun _ h376 => Kn_c h376 (hX _ _ _ _ _))) (Kn_c h375 (hX _ _ _ _ _))) (Kn_no _)) (Kn_c h375 (hX _ _ _ _ _))) (Kn_no _)) (Kn_c h375 (hX _ _ _ _ _))))) (Kn_no _)
  | 3 => exact Kn_ite (Kn_ite (Kn_od (fun _ => Kn_ob (Kn_c rfl (hX _ _ _ _ _)) (fun _ h377 => Kn_ite (Kn_c h377 (hX _ _ _ _ _)) (Kn_c h377 (hX _ _ _ _ _))))) (Kn_no _)) (Kn_c rfl (hX _ _ _ _ _))
  | 4 => exact Kn_c rfl (hX _ _ _ _ _)
  | 5 => exact Kn_c rfl (hX _ _ _ _ _)
  | 6 => exact Kn_c rfl (hX _ _ _ _ _)
  | 7 => exact Kn_ite (Kn_ob (Kn_c rfl (kn_clear _ _ _ _)) (fun _ h378 => Kn_ite (Kn_ite (Kn_ite (Kn_ob (Kn_c h378 (kn_setOf _ _ _ _)) (fun _ h379 => Kn_c h379 (hX _ _ _ _ _))) (Kn_c h378 (hX _ _ _ _ _))) (Kn_no _)) (Kn_c h378 (hX _ _ _ _ _)))) (Kn_no _)
  | 8 => exact Kn_ob (Kn_c rfl (kn_tupleOf _ _ _ _)) (fun _ h380 => Kn_c h380 (hX _ _ _ _ _))
  | 9 => exact Kn_ob (Kn_c rfl (kn_answer _ _ _ _)) (fun _ h381 => Kn_ob (Kn_c h381 (kn_push _ _ _ _)) (fun _ h382 => Kn_c h382 (hX _ _ _ _ _)))
  | 10 => exact Kn_so rfl
  | b + 11 => exact Kn_no _
theorem kn_s_goOn {X : Nat → Nat → Nat → (Nat → Int32) → MS → Option (Int32 × MS)} (hX : ∀ e m b L (σ : MS), Kn (X e m b L σ) (kn σ)) (k d b : Nat) (L : Nat → Int32) (σ : MS) : Kn (s_goOn X k d b L σ) (kn σ) := by
  match b with
  | 0 => exact Kn_c rfl (hX _ _ _ _ _)
  | 1 => exact Kn_ite (Kn_ob (Kn_c rfl (kn_sweep _ _ _ _)) (fun _ h383 => Kn_ite (Kn_c h383 (hX _ _ _ _ _)) (Kn_ite (Kn_c h383 (hX _ _ _ _ _)) (Kn_c h383 (hX _ _ _ _ _))))) (Kn_c rfl (hX _ _ _ _ _))
  | 2 => exact Kn_ite (Kn_ite (Kn_c rfl (hX _ _ _ _ _)) (Kn_no _)) (Kn_no _)
  | 3 => exact Kn_ite (Kn_so rfl) (Kn_c rfl (hX _ _ _ _ _))
  | 4 => exact Kn_od (fun _ => Kn_ob (Kn_c rfl (hX _ _ _ _ _)) (fun _ h384 => Kn_ite (Kn_c h384 (hX _ _ _ _ _)) (Kn_so h384)))
  | 5 => exact Kn_ite (Kn_c rfl (hX _ _ _ _ _)) (Kn_no _)
  | 6 => exact Kn_ite (Kn_so rfl) (Kn_c rfl (hX _ _ _ _ _))
  | 7 => exact Kn_ite (Kn_ob (Kn_c rfl (kn_stepIter _ _ _ _)) (fun _ h385 => Kn_ite (Kn_ite (Kn_c h385 (hX _ _ _ _ _)) (Kn_c h385 (hX _ _ _ _ _))) (Kn_c h385 (hX _ _ _ _ _)))) (Kn_no _)
  | 8 => exact Kn_ite (Kn_c rfl (hX _ _ _ _ _)) (Kn_ite (Kn_ite (Kn_ite (Kn_so rfl) (Kn_c rfl (hX _ _ _ _ _))) (Kn_no _)) (Kn_no _))
  | 9 => exact Kn_so rfl
  | b + 10 => exact Kn_no _
theorem kn_s_goesOn {X : Nat → Nat → Nat → (Nat → Int32) → MS → Option (Int32 × MS)} (hX : ∀ e m b L (σ : MS), Kn (X e m b L σ) (kn σ)) (k d b : Nat) (L : Nat → Int32) (σ : MS) : Kn (s_goesOn X k d b L σ) (kn σ) := by
  match b with
  | 0 => exact Kn_ite (Kn_ite (Kn_so rfl) (Kn_c rfl (hX _ _ _ _ _))) (Kn_no _)
  | 1 => exact Kn_ite (Kn_c rfl (hX _ _ _ _ _)) (Kn_ite (Kn_c rfl (hX _ _ _ _ _)) (Kn_c rfl (hX _ _ _ _ _)))
  | 2 => exact Kn_ob (Kn_c rfl (kn_isTrue _ _ _ _)) (fun _ h386 => Kn_ite (Kn_ite (Kn_c h386 (hX _ _ _ _ _)) (Kn_c h386 (hX _ _ _ _ _))) (Kn_c h386 (hX _ _ _ _ _)))
  | 3 => exact Kn_c rfl (hX _ _ _ _ _)
  | 4 => exact Kn_ite (Kn_ite (Kn_od (fun _ => Kn_ob (Kn_c rfl (hX _ _ _ _ _)) (fun _ h387 => Kn_ite (Kn_ob (Kn_c h387 (kn_isTrue _ _ _ _)) (fun _ h388 => Kn_ite (Kn_c h388 (hX _ _ _ _ _)) (Kn_c h388 (hX _ _ _ _ _)))) (Kn_c h387 (hX _ _ _ _ _))))) (Kn_no _)) (Kn_c rfl (hX _ _ _ _ _))
  | 5 => exact Kn_c rfl (hX _ _ _ _ _)
  | 6 => exact Kn_c rfl (hX _ _ _ _ _)
  | 7 => exact Kn_ob (Kn_c rfl (kn_truth _ _ _ _)) (fun _ h389 => Kn_ob (Kn_c h389 (kn_answer _ _ _ _)) (fun _ h390 => Kn_ob (Kn_c h390 (kn_push _ _ _ _)) (fun _ h391 => Kn_so h391)))
  | 8 => exact Kn_ite (Kn_od (fun _ => Kn_ob (Kn_c rfl (hX _ _ _ _ _)) (fun _ h392 => Kn_ite (Kn_ite (Kn_ite (Kn_od (fun _ => Kn_ob (Kn_c h392 (hX _ _ _ _ _)) (fun _ h393 => Kn_c h393 (hX _ _ _ _ _)))) (Kn_no _)) (Kn_c h392 (hX _ _ _ _ _))) (Kn_c h392 (hX _ _ _ _ _))))) (Kn_no _)
  | 9 => exact Kn_ite (Kn_c rfl (hX _ _ _ _ _)) (Kn_so rfl)
  | 10 => exact Kn_ob (Kn_c rfl (kn_sweep _ _ _ _)) (fun _ h394 => Kn_ite (Kn_c h394 (hX _ _ _ _ _)) (Kn_c h394 (hX _ _ _ _ _)))
  | 11 => exact Kn_c rfl (hX _ _ _ _ _)
  | 12 => exact Kn_c rfl (hX _ _ _ _ _)
  | 13 => exact Kn_ite (Kn_ite (Kn_ite (Kn_c rfl (hX _ _ _ _ _)) (Kn_ite (Kn_c rfl (hX _ _ _ _ _)) (Kn_ite (Kn_c rfl (hX _ _ _ _ _)) (Kn_c rfl (hX _ _ _ _ _))))) (Kn_no _)) (Kn_no _)
  | 14 => exact Kn_ite (Kn_ob (Kn_c rfl (kn_slice _ _ _ _)) (fun _ h395 => Kn_c h395 (hX _ _ _ _ _))) (Kn_no _)
  | 15 => exact Kn_ob (Kn_c rfl (kn_partAt _ _ _ _)) (fun _ h396 => Kn_c h396 (hX _ _ _ _ _))
  | 16 => exact Kn_ob (Kn_c rfl (kn_image _ _ _ _)) (fun _ h397 => Kn_c h397 (hX _ _ _ _ _))
  | 17 => exact Kn_ite (Kn_ob (Kn_c rfl (kn_operate _ _ _ _)) (fun _ h398 => Kn_c h398 (hX _ _ _ _ _))) (Kn_no _)
  | 18 => exact Kn_ob (Kn_c rfl (kn_answer _ _ _ _)) (fun _ h399 => Kn_ob (Kn_c h399 (kn_push _ _ _ _)) (fun _ h400 => Kn_so h400))
  | b + 19 => exact Kn_no _
theorem kn_s_holds {X : Nat → Nat → Nat → (Nat → Int32) → MS → Option (Int32 × MS)} (hX : ∀ e m b L (σ : MS), Kn (X e m b L σ) (kn σ)) (k d b : Nat) (L : Nat → Int32) (σ : MS) : Kn (s_holds X k d b L σ) (kn σ) := by
  match b with
  | 0 => exact Kn_od (fun _ => Kn_ob (Kn_c rfl (hX _ _ _ _ _)) (fun _ h401 => Kn_ite (Kn_ob (Kn_c h401 (kn_isTrue _ _ _ _)) (fun _ h402 => Kn_ite (Kn_c h402 (hX _ _ _ _ _)) (Kn_c h402 (hX _ _ _ _ _)))) (Kn_c h401 (hX _ _ _ _ _))))
  | 1 => exact Kn_c rfl (hX _ _ _ _ _)
  | 2 => exact Kn_ite (Kn_so rfl) (Kn_no _)
  | b + 3 => exact Kn_no _
theorem kn_s_openIter {X : Nat → Nat → Nat → (Nat → Int32) → MS → Option (Int32 × MS)} (hX : ∀ e m b L (σ : MS), Kn (X e m b L σ) (kn σ)) (k d b : Nat) (L : Nat → Int32) (σ : MS) : Kn (s_openIter X k d b L σ) (kn σ) := by
  match b with
  | 0 => exact Kn_ite (Kn_od (fun _ => Kn_ob (Kn_c rfl (hX _ _ _ _ _)) (fun _ h403 => Kn_ite (Kn_c h403 (hX _ _ _ _ _)) (Kn_so h403)))) (Kn_no _)
  | 1 => exact Kn_ob (Kn_c rfl (kn_pop _ _ _ _)) (fun _ h404 => Kn_ob (Kn_c h404 (kn_isRow _ _ _ _)) (fun _ h405 => Kn_ite (Kn_ob (Kn_c h405 (kn_fail _ _ _ _)) (fun _ h406 => Kn_so h406)) (Kn_c h405 (hX _ _ _ _ _))))
  | 2 => exact Kn_ite (Kn_c rfl (hX _ _ _ _ _)) (Kn_no _)
  | 3 => exact Kn_ite (Kn_c rfl (hX _ _ _ _ _)) (Kn_no _)
  | 4 => exact Kn_so rfl
  | b + 5 => exact Kn_no _
theorem kn_s_quantify {X : Nat → Nat → Nat → (Nat → Int32) → MS → Option (Int32 × MS)} (hX : ∀ e m b L (σ : MS), Kn (X e m b L σ) (kn σ)) (k d b : Nat) (L : Nat → Int32) (σ : MS) : Kn (s_quantify X k d b L σ) (kn σ) := by
  match b with
  | 0 => exact Kn_ite (Kn_ite (Kn_c rfl (hX _ _ _ _ _)) (Kn_c rfl (hX _ _ _ _ _))) (Kn_no _)
  | 1 => exact Kn_c rfl (hX _ _ _ _ _)
  | 2 => exact Kn_ite (Kn_od (fun _ => Kn_ob (Kn_c rfl (hX _ _ _ _ _)) (fun _ h407 => Kn_c h407 (hX _ _ _ _ _)))) (Kn_no _)
  | 3 => exact Kn_ite (Kn_c rfl (hX _ _ _ _ _)) (Kn_ite (Kn_ite (Kn_od (fun _ => Kn_ob (Kn_c rfl (hX _ _ _ _ _)) (fun _ h408 => Kn_ite (Kn_ite (Kn_c h408 (hX _ _ _ _ _)) (Kn_c h408 (hX _ _ _ _ _))) (Kn_c h408 (hX _ _ _ _ _))))) (Kn_no _)) (Kn_c rfl (hX _ _ _ _ _)))
  | 4 => exact Kn_c rfl (hX _ _ _ _ _)
  | 5 => exact Kn_ite (Kn_ite (Kn_ite (Kn_od (fun _ => Kn_ob (Kn_c rfl (hX _ _ _ _ _)) (fun _ h409 => Kn_ite (Kn_c h409 (hX _ _ _ _ _)) (Kn_c h409 (hX _ _ _ _ _))))) (Kn_no _)) (Kn_c rfl (hX _ _ _ _ _))) (Kn_c rfl (hX _ _ _ _ _))
  | 6 => exact Kn_c rfl (hX _ _ _ _ _)
  | 7 => exact Kn_c rfl (hX _ _ _ _ _)
  | 8 => exact Kn_c rfl (hX _ _ _ _ _)
  | 9 => exact Kn_ite (Kn_ob (Kn_c rfl (kn_clear _ _ _ _)) (fun _ h410 => Kn_ite (Kn_ite (Kn_c h410 (hX _ _ _ _ _)) (Kn_c h410 (hX _ _ _ _ _))) (Kn_c h410 (hX _ _ _ _ _)))) (Kn_no _)
  | 10 => exact Kn_c rfl (hX _ _ _ _ _)
  | 11 => exact Kn_ob (Kn_c rfl (kn_truth _ _ _ _)) (fun _ h411 => Kn_ob (Kn_c h411 (kn_answer _ _ _ _)) (fun _ h412 => Kn_ob (Kn_c h412 (kn_push _ _ _ _)) (fun _ h413 => Kn_c h413 (hX _ _ _ _ _))))
  | 12 => exact Kn_so rfl
  | b + 13 => exact Kn_no _
theorem kn_s_setBrackets {X : Nat → Nat → Nat → (Nat → Int32) → MS → Option (Int32 × MS)} (hX : ∀ e m b L (σ : MS), Kn (X e m b L σ) (kn σ)) (k d b : Nat) (L : Nat → Int32) (σ : MS) : Kn (s_setBrackets X k d b L σ) (kn σ) := by
  match b with
  | 0 => exact Kn_ite (Kn_c rfl (hX _ _ _ _ _)) (Kn_no _)
  | 1 => exact Kn_ite (Kn_c rfl (hX _ _ _ _ _)) (Kn_ite (Kn_od (fun _ => Kn_ob (Kn_c rfl (hX _ _ _ _ _)) (fun _ h414 => Kn_ite (Kn_ite (Kn_ite (Kn_c h414 (hX _ _ _ _ _)) (Kn_c h414 (hX _ _ _ _ _))) (Kn_no _)) (Kn_c h414 (hX _ _ _ _ _))))) (Kn_c rfl (hX _ _ _ _ _)))
  | 2 => exact Kn_ite (Kn_c rfl (hX _ _ _ _ _)) (Kn_c rfl (hX _ _ _ _ _))
  | 3 => exact Kn_c rfl (hX _ _ _ _ _)
  | 4 => exact Kn_c rfl (hX _ _ _ _ _)
  | 5 => exact Kn_ite (Kn_ite (Kn_ite (Kn_c rfl (hX _ _ _ _ _)) (Kn_c rfl (hX _ _ _ _ _))) (Kn_c rfl (hX _ _ _ _ _))) (Kn_c rfl (hX _ _ _ _ _))
  | 6 => exact Kn_c rfl (hX _ _ _ _ _)
  | 7 => exact Kn_ite (Kn_ob (Kn_c rfl (kn_distinct _ _ _ _)) (fun _ h415 => Kn_c h415 (hX _ _ _ _ _))) (Kn_c rfl (hX _ _ _ _ _))
  | 8 => exact Kn_ite (Kn_c rfl (hX _ _ _ _ _)) (Kn_ite (Kn_ob (Kn_c rfl (kn_size _ _ _ _)) (fun _ h416 => Kn_c h416 (hX _ _ _ _ _))) (Kn_no _))
  | 9 => exact Kn_ite (Kn_c rfl (hX _ _ _ _ _)) (Kn_c rfl (hX _ _ _ _ _))
  | 10 => exact Kn_c rfl (hX _ _ _ _ _)
  | 11 => exact Kn_ite (Kn_c rfl (hX _ _ _ _ _)) (Kn_c rfl (hX _ _ _ _ _))
  | 12 => exact Kn_c rfl (hX _ _ _ _ _)
  | 13 => exact Kn_c rfl (hX _ _ _ _ _)
  | 14 => exact Kn_ite (Kn_c rfl (hX _ _ _ _ _)) (Kn_no _)
  | 15 => exact Kn_ite (Kn_ite (Kn_c rfl (hX _ _ _ _ _)) (Kn_ob (Kn_c rfl (kn_fail _ _ _ _)) (fun _ h417 => Kn_c h417 (hX _ _ _ _ _)))) (Kn_c rfl (hX _ _ _ _ _))
  | 16 => exact Kn_ite (Kn_ite (Kn_c rfl (hX _ _ _ _ _)) (Kn_ob (Kn_c rfl (kn_fail _ _ _ _)) (fun _ h418 => Kn_c h418 (hX _ _ _ _ _)))) (Kn_c rfl (hX _ _ _ _ _))
  | 17 => exact Kn_ite (Kn_ob (Kn_c rfl (kn_sweep _ _ _ _)) (fun _ h419 => Kn_ob (Kn_c h419 (kn_setOf _ _ _ _)) (fun _ h420 => Kn_ob (Kn_c h420 (kn_answer _ _ _ _)) (fun _ h421 => Kn_ob (Kn_c h421 (kn_push _ _ _ _)) (fun _ h422 => Kn_c h422 (hX _ _ _ _ _)))))) (Kn_c rfl (hX _ _ _ _ _))
  | 18 => exact Kn_so rfl
  | b + 19 => exact Kn_no _
theorem kn_s_tupleBrackets {X : Nat → Nat → Nat → (Nat → Int32) → MS → Option (Int32 × MS)} (hX : ∀ e m b L (σ : MS), Kn (X e m b L σ) (kn σ)) (k d b : Nat) (L : Nat → Int32) (σ : MS) : Kn (s_tupleBrackets X k d b L σ) (kn σ) := by
  match b with
  | 0 => exact Kn_ite (Kn_c rfl (hX _ _ _ _ _)) (Kn_no _)
  | 1 => exact Kn_ite (Kn_c rfl (hX _ _ _ _ _)) (Kn_ite (Kn_od (fun _ => Kn_ob (Kn_c rfl (hX _ _ _ _ _)) (fun _ h423 => Kn_ite (Kn_ob (Kn_c h423 (kn_pop _ _ _ _)) (fun _ h424 => Kn_c h424 (hX _ _ _ _ _))) (Kn_c h423 (hX _ _ _ _ _))))) (Kn_c rfl (hX _ _ _ _ _)))
  | 2 => exact Kn_c rfl (hX _ _ _ _ _)
  | 3 => exact Kn_ite (Kn_c rfl (hX _ _ _ _ _)) (Kn_c rfl (hX _ _ _ _ _))
  | 4 => exact Kn_ite (Kn_c rfl (hX _ _ _ _ _)) (Kn_ob (Kn_c rfl (kn_size _ _ _ _)) (fun _ h425 => Kn_c h425 (hX _ _ _ _ _)))
  | 5 => exact Kn_ite (Kn_c rfl (hX _ _ _ _ _)) (Kn_ite (Kn_c rfl (hX _ _ _ _ _)) (Kn_ob (Kn_c rfl (kn_push _ _ _ _)) (fun _ h426 => Kn_c h426 (hX _ _ _ _ _))))
  | 6 => exact Kn_ob (Kn_c rfl (kn_push _ _ _ _)) (fun _ h427 => Kn_c h427 (hX _ _ _ _ _))
  | 7 => exact Kn_ite (Kn_c rfl (hX _ _ _ _ _)) (Kn_c rfl (hX _ _ _ _ _))
  | 8 => exact Kn_c rfl (hX _ _ _ _ _)
  | 9 => exact Kn_c rfl (hX _ _ _ _ _)
  | 10 => exact Kn_ite (Kn_c rfl (hX _ _ _ _ _)) (Kn_no _)
  | 11 => exact Kn_ite (Kn_ite (Kn_c rfl (hX _ _ _ _ _)) (Kn_ob (Kn_c rfl (kn_fail _ _ _ _)) (fun _ h428 => Kn_c h428 (hX _ _ _ _ _)))) (Kn_c rfl (hX _ _ _ _ _))
  | 12 => exact Kn_ite (Kn_ob (Kn_c rfl (kn_sweep _ _ _ _)) (fun _ h429 => Kn_ob (Kn_c h429 (kn_tupleOf _ _ _ _)) (fun _ h430 => Kn_ob (Kn_c h430 (kn_answer _ _ _ _)) (fun _ h431 => Kn_ob (Kn_c h431 (kn_push _ _ _ _)) (fun _ h432 => Kn_c h432 (hX _ _ _ _ _)))))) (Kn_c rfl (hX _ _ _ _ _))
  | 13 => exact Kn_so rfl
  | b + 14 => exact Kn_no _
theorem kn_GV : ∀ (k d m b : Nat) (L : Nat → Int32) (σ : MS), Kn (x_GV k d m b L σ) (kn σ) := by
  intro k
  induction k with
  | zero => intro d m b L σ; exact Kn_no _
  | succ k ih =>
    intro d m b L σ
    match m with
    | 0 => exact kn_s_begins ih k d b L σ
    | 1 => exact kn_s_bounds ih k d b L σ
    | 2 => exact kn_s_callFunc ih k d b L σ
    | 3 => exact kn_s_choose ih k d b L σ
    | 4 => exact kn_s_eval ih k d b L σ
    | 5 => exact kn_s_former ih k d b L σ
    | 6 => exact kn_s_goOn ih k d b L σ
    | 7 => exact kn_s_goesOn ih k d b L σ
    | 8 => exact kn_s_holds ih k d b L σ
    | 9 => exact kn_s_openIter ih k d b L σ
    | 10 => exact kn_s_quantify ih k d b L σ
    | 11 => exact kn_s_setBrackets ih k d b L σ
    | 12 => exact kn_s_tupleBrackets ih k d b L σ
    | m + 13 => exact Kn_no _
theorem kn_nameOf : ∀ (k b : Nat) (L : Nat → Int32) (σ : MS), Kn (x_nameOf k b L σ) (kn σ) := by
  intro k
  induction k with
  | zero => intro b L σ; exact Kn_no _
  | succ k ih =>
    intro b L σ
    match b with
    | 0 =>
      refine Kn_eq (by rw [x_nameOf]) ?_
      exact Kn_c rfl (ih _ _ _)
    | 1 =>
      refine Kn_eq (by rw [x_nameOf]) ?_
      exact Kn_ite (Kn_ite (Kn_c rfl (ih _ _ _)) (Kn_ite (Kn_c rfl (ih _ _ _)) (Kn_no _))) (Kn_no _)
    | 2 =>
      refine Kn_eq (by rw [x_nameOf]) ?_
      exact Kn_so rfl
    | b + 3 =>
      refine Kn_eq (by rw [x_nameOf]) (Kn_no _)
theorem kn_eval (k b : Nat) (L : Nat → Int32) (σ : MS) : Kn (x_eval k b L σ) (kn σ) := kn_GV k 1300 4 b L σ
theorem kn_workParts : ∀ (k b : Nat) (L : Nat → Int32) (σ : MS), Kn (x_workParts k b L σ) (kn σ) := by
  intro k
  induction k with
  | zero => intro b L σ; exact Kn_no _
  | succ k ih =>
    intro b L σ
    match b with
    | 0 =>
      refine Kn_eq (by rw [x_workParts]) ?_
      exact Kn_ob (Kn_c rfl (kn_nameOf _ _ _ _)) (fun _ h433 => Kn_c h433 (ih _ _ _))
    | 1 =>
      refine Kn_eq (by rw [x_workParts]) ?_
      exact Kn_ite (Kn_c rfl (ih _ _ _)) (Kn_ite (Kn_ite (Kn_ite (Kn_ob (Kn_c rfl (kn_eval _ _ _ _)) (fun _ h434 => Kn_ite (Kn_ite (Kn_ite (Kn_ite (Kn_ob (Kn_c h434 (kn_eval _ _ _ _)) (fun _ h435 => Kn_c h435 (ih _ _ _))) (Kn_no _)) (Kn_c h434 (ih _ _ _))) (Kn_c h434 (ih _ _ _))) (Kn_no _))) (Kn_no _)) (Kn_no _)) (Kn_c rfl (ih _ _ _)))
    | 2 =>
      refine Kn_eq (by rw [x_workParts]) ?_
      exact Kn_so rfl
    | b + 3 =>
      refine Kn_eq (by rw [x_workParts]) (Kn_no _)
theorem kn_keysOf : ∀ (k b : Nat) (L : Nat → Int32) (σ : MS), Kn (x_keysOf k b L σ) (kn σ) := by
  intro k
  induction k with
  | zero => intro b L σ; exact Kn_no _
  | succ k ih =>
    intro b L σ
    match b with
    | 0 =>
      refine Kn_eq (by rw [x_keysOf]) ?_
      exact Kn_ite (Kn_c rfl (ih _ _ _)) (Kn_c rfl (ih _ _ _))
    | 1 =>
      refine Kn_eq (by rw [x_keysOf]) ?_
      exact Kn_ite (Kn_c rfl (ih _ _ _)) (Kn_c rfl (ih _ _ _))
    | 2 =>
      refine Kn_eq (by rw [x_keysOf]) ?_
      exact Kn_c rfl (ih _ _ _)
    | 3 =>
      refine Kn_eq (by rw [x_keysOf]) ?_
      exact Kn_so rfl
    | b + 4 =>
      refine Kn_eq (by rw [x_keysOf]) (Kn_no _)
theorem kn_readParts : ∀ (k b : Nat) (L : Nat → Int32) (σ : MS), Kn (x_readParts k b L σ) (kn σ) := by
  intro k
  induction k with
  | zero => intro b L σ; exact Kn_no _
  | succ k ih =>
    intro b L σ
    match b with
    | 0 =>
      refine Kn_eq (by rw [x_readParts]) ?_
      exact Kn_ob (Kn_c rfl (kn_nameOf _ _ _ _)) (fun _ h436 => Kn_ob (Kn_c h436 (kn_valueOf _ _ _ _)) (fun _ h437 => Kn_ob (Kn_c h437 (kn_push _ _ _ _)) (fun _ h438 => Kn_c h438 (ih _ _ _))))
    | 1 =>
      refine Kn_eq (by rw [x_readParts]) ?_
      exact Kn_ite (Kn_c rfl (ih _ _ _)) (Kn_ite (Kn_ite (Kn_ite (Kn_c rfl (ih _ _ _)) (Kn_c rfl (ih _ _ _))) (Kn_no _)) (Kn_c rfl (ih _ _ _)))
    | 2 =>
      refine Kn_eq (by rw [x_readParts]) ?_
      exact Kn_ite (Kn_ite (Kn_ob (Kn_c rfl (kn_sweep _ _ _ _)) (fun _ h439 => Kn_ite (Kn_ite (Kn_ite (Kn_ite (Kn_ob (Kn_c h439 (kn_partAt _ _ _ _)) (fun _ h440 => Kn_c h440 (ih _ _ _))) (Kn_no _)) (Kn_c h439 (ih _ _ _))) (Kn_no _)) (Kn_no _))) (Kn_no _)) (Kn_c rfl (ih _ _ _))
    | 3 =>
      refine Kn_eq (by rw [x_readParts]) ?_
      exact Kn_ite (Kn_ite (Kn_ite (Kn_ob (Kn_c rfl (kn_image _ _ _ _)) (fun _ h441 => Kn_c h441 (ih _ _ _))) (Kn_no _)) (Kn_c rfl (ih _ _ _))) (Kn_no _)
    | 4 =>
      refine Kn_eq (by rw [x_readParts]) ?_
      exact Kn_ite (Kn_ite (Kn_ob (Kn_c rfl (kn_slice _ _ _ _)) (fun _ h442 => Kn_c h442 (ih _ _ _))) (Kn_no _)) (Kn_no _)
    | 5 =>
      refine Kn_eq (by rw [x_readParts]) ?_
      exact Kn_ob (Kn_c rfl (kn_answer _ _ _ _)) (fun _ h443 => Kn_ob (Kn_c h443 (kn_push _ _ _ _)) (fun _ h444 => Kn_ite (Kn_ob (Kn_c h444 (kn_keysOf _ _ _ _)) (fun _ h445 => Kn_c h445 (ih _ _ _))) (Kn_no _)))
    | 6 =>
      refine Kn_eq (by rw [x_readParts]) ?_
      exact Kn_so rfl
    | b + 7 =>
      refine Kn_eq (by rw [x_readParts]) (Kn_no _)
theorem kn_keysIn : ∀ (k b : Nat) (L : Nat → Int32) (σ : MS), Kn (x_keysIn k b L σ) (kn σ) := by
  intro k
  induction k with
  | zero => intro b L σ; exact Kn_no _
  | succ k ih =>
    intro b L σ
    match b with
    | 0 =>
      refine Kn_eq (by rw [x_keysIn]) ?_
      exact Kn_c rfl (ih _ _ _)
    | 1 =>
      refine Kn_eq (by rw [x_keysIn]) ?_
      exact Kn_ite (Kn_ite (Kn_c rfl (ih _ _ _)) (Kn_ite (Kn_ob (Kn_c rfl (kn_keysOf _ _ _ _)) (fun _ h446 => Kn_ite (Kn_c h446 (ih _ _ _)) (Kn_no _))) (Kn_no _))) (Kn_no _)
    | 2 =>
      refine Kn_eq (by rw [x_keysIn]) ?_
      exact Kn_so rfl
    | b + 3 =>
      refine Kn_eq (by rw [x_keysIn]) (Kn_no _)
theorem kn_putPlace : ∀ (k b : Nat) (L : Nat → Int32) (σ : MS), Kn (x_putPlace k b L σ) (kn σ) := by
  intro k
  induction k with
  | zero => intro b L σ; exact Kn_no _
  | succ k ih =>
    intro b L σ
    match b with
    | 0 =>
      refine Kn_eq (by rw [x_putPlace]) ?_
      exact Kn_ite (Kn_ite (Kn_c rfl (ih _ _ _)) (Kn_ite (Kn_so rfl) (Kn_c rfl (ih _ _ _)))) (Kn_no _)
    | 1 =>
      refine Kn_eq (by rw [x_putPlace]) ?_
      exact Kn_ite (Kn_c rfl (ih _ _ _)) (Kn_ob (Kn_c rfl (kn_fail _ _ _ _)) (fun _ h447 => Kn_so h447))
    | 2 =>
      refine Kn_eq (by rw [x_putPlace]) ?_
      exact Kn_c rfl (ih _ _ _)
    | 3 =>
      refine Kn_eq (by rw [x_putPlace]) ?_
      exact Kn_ite (Kn_c rfl (ih _ _ _)) (Kn_ite (Kn_c rfl (ih _ _ _)) (Kn_c rfl (ih _ _ _)))
    | 4 =>
      refine Kn_eq (by rw [x_putPlace]) ?_
      exact Kn_ite (Kn_c rfl (ih _ _ _)) (Kn_c rfl (ih _ _ _))
    | 5 =>
      refine Kn_eq (by rw [x_putPlace]) ?_
      exact Kn_ite (Kn_c rfl (ih _ _ _)) (Kn_ite (Kn_c rfl (ih _ _ _)) (Kn_no _))
    | 6 =>
      refine Kn_eq (by rw [x_putPlace]) ?_
      exact Kn_c rfl (ih _ _ _)
    | 7 =>
      refine Kn_eq (by rw [x_putPlace]) ?_
      exact Kn_ob (Kn_c rfl (kn_push _ _ _ _)) (fun _ h448 => Kn_c h448 (ih _ _ _))
    | 8 =>
      refine Kn_eq (by rw [x_putPlace]) ?_
      exact Kn_ob (Kn_c rfl (kn_tupleOf _ _ _ _)) (fun _ h449 => Kn_so h449)
    | b + 9 =>
      refine Kn_eq (by rw [x_putPlace]) (Kn_no _)
theorem kn_pushOthers : ∀ (k b : Nat) (L : Nat → Int32) (σ : MS), Kn (x_pushOthers k b L σ) (kn σ) := by
  intro k
  induction k with
  | zero => intro b L σ; exact Kn_no _
  | succ k ih =>
    intro b L σ
    match b with
    | 0 =>
      refine Kn_eq (by rw [x_pushOthers]) ?_
      exact Kn_c rfl (ih _ _ _)
    | 1 =>
      refine Kn_eq (by rw [x_pushOthers]) ?_
      exact Kn_ite (Kn_ite (Kn_c rfl (ih _ _ _)) (Kn_ite (Kn_ite (Kn_ob (Kn_c rfl (kn_compare _ _ _ _)) (fun _ h450 => Kn_ite (Kn_c h450 (ih _ _ _)) (Kn_ob (Kn_c h450 (kn_push _ _ _ _)) (fun _ h451 => Kn_c h451 (ih _ _ _))))) (Kn_no _)) (Kn_no _))) (Kn_no _)
    | 2 =>
      refine Kn_eq (by rw [x_pushOthers]) ?_
      exact Kn_c rfl (ih _ _ _)
    | 3 =>
      refine Kn_eq (by rw [x_pushOthers]) ?_
      exact Kn_so rfl
    | b + 4 =>
      refine Kn_eq (by rw [x_pushOthers]) (Kn_no _)
theorem kn_pair : ∀ (k b : Nat) (L : Nat → Int32) (σ : MS), Kn (x_pair k b L σ) (kn σ) := by
  intro k
  induction k with
  | zero => intro b L σ; exact Kn_no _
  | succ k ih =>
    intro b L σ
    match b with
    | 0 =>
      refine Kn_eq (by rw [x_pair]) ?_
      exact Kn_ob (Kn_c rfl (kn_push _ _ _ _)) (fun _ h452 => Kn_ob (Kn_c h452 (kn_push _ _ _ _)) (fun _ h453 => Kn_ob (Kn_c h453 (kn_tupleOf _ _ _ _)) (fun _ h454 => Kn_so h454)))
    | b + 1 =>
      refine Kn_eq (by rw [x_pair]) (Kn_no _)
theorem kn_putAt : ∀ (k b : Nat) (L : Nat → Int32) (σ : MS), Kn (x_putAt k b L σ) (kn σ) := by
  intro k
  induction k with
  | zero => intro b L σ; exact Kn_no _
  | succ k ih =>
    intro b L σ
    match b with
    | 0 =>
      refine Kn_eq (by rw [x_putAt]) ?_
      exact Kn_ob (Kn_c rfl (kn_kind _ _ _ _)) (fun _ h455 => Kn_ite (Kn_c h455 (ih _ _ _)) (Kn_ite (Kn_c h455 (ih _ _ _)) (Kn_c h455 (ih _ _ _))))
    | 1 =>
      refine Kn_eq (by rw [x_putAt]) ?_
      exact Kn_ob (Kn_c rfl (kn_kind _ _ _ _)) (fun _ h456 => Kn_ite (Kn_ite (Kn_ob (Kn_c h456 (kn_kind _ _ _ _)) (fun _ h457 => Kn_ite (Kn_ite (Kn_ite (Kn_c h457 (ih _ _ _)) (Kn_c h457 (ih _ _ _))) (Kn_no _)) (Kn_c h457 (ih _ _ _)))) (Kn_c h456 (ih _ _ _))) (Kn_c h456 (ih _ _ _)))
    | 2 =>
      refine Kn_eq (by rw [x_putAt]) ?_
      exact Kn_ob (Kn_c rfl (kn_wrongKind _ _ _ _)) (fun _ h458 => Kn_so h458)
    | 3 =>
      refine Kn_eq (by rw [x_putAt]) ?_
      exact Kn_ob (Kn_c rfl (kn_intOf _ _ _ _ _)) (fun _ h459 => Kn_ite (Kn_ite (Kn_c h459 (ih _ _ _)) (Kn_ite (Kn_ite (Kn_c h459 (ih _ _ _)) (Kn_c h459 (ih _ _ _))) (Kn_c h459 (ih _ _ _)))) (Kn_no _))
    | 4 =>
      refine Kn_eq (by rw [x_putAt]) ?_
      exact Kn_ob (Kn_c rfl (kn_fail _ _ _ _)) (fun _ h460 => Kn_so h460)
    | 5 =>
      refine Kn_eq (by rw [x_putAt]) ?_
      exact Kn_ite (Kn_c rfl (ih _ _ _)) (Kn_c rfl (ih _ _ _))
    | 6 =>
      refine Kn_eq (by rw [x_putAt]) ?_
      exact Kn_ite (Kn_c rfl (ih _ _ _)) (Kn_ite (Kn_ite (Kn_c rfl (ih _ _ _)) (Kn_no _)) (Kn_no _))
    | 7 =>
      refine Kn_eq (by rw [x_putAt]) ?_
      exact Kn_c rfl (ih _ _ _)
    | 8 =>
      refine Kn_eq (by rw [x_putAt]) ?_
      exact Kn_ite (Kn_ite (Kn_c rfl (ih _ _ _)) (Kn_no _)) (Kn_no _)
    | 9 =>
      refine Kn_eq (by rw [x_putAt]) ?_
      exact Kn_ite (Kn_c rfl (ih _ _ _)) (Kn_c rfl (ih _ _ _))
    | 10 =>
      refine Kn_eq (by rw [x_putAt]) ?_
      exact Kn_c rfl (ih _ _ _)
    | 11 =>
      refine Kn_eq (by rw [x_putAt]) ?_
      exact Kn_ob (Kn_c rfl (kn_stringOf__51 _ _ _ _)) (fun _ h461 => Kn_so h461)
    | 12 =>
      refine Kn_eq (by rw [x_putAt]) ?_
      exact Kn_ob (Kn_c rfl (kn_putPlace _ _ _ _)) (fun _ h462 => Kn_so h462)
    | 13 =>
      refine Kn_eq (by rw [x_putAt]) ?_
      exact Kn_ob (Kn_c rfl (kn_isMap _ _ _ _)) (fun _ h463 => Kn_ite (Kn_ob (Kn_c h463 (kn_wrongKind _ _ _ _)) (fun _ h464 => Kn_so h464)) (Kn_c h463 (ih _ _ _)))
    | 14 =>
      refine Kn_eq (by rw [x_putAt]) ?_
      exact Kn_ob (Kn_c rfl (kn_pushOthers _ _ _ _)) (fun _ h465 => Kn_ite (Kn_c h465 (ih _ _ _)) (Kn_ob (Kn_c h465 (kn_pair _ _ _ _)) (fun _ h466 => Kn_ob (Kn_c h466 (kn_push _ _ _ _)) (fun _ h467 => Kn_c h467 (ih _ _ _)))))
    | 15 =>
      refine Kn_eq (by rw [x_putAt]) ?_
      exact Kn_ite (Kn_c rfl (ih _ _ _)) (Kn_c rfl (ih _ _ _))
    | 16 =>
      refine Kn_eq (by rw [x_putAt]) ?_
      exact Kn_ob (Kn_c rfl (kn_setOf _ _ _ _)) (fun _ h468 => Kn_c h468 (ih _ _ _))
    | 17 =>
      refine Kn_eq (by rw [x_putAt]) ?_
      exact Kn_so rfl
    | b + 18 =>
      refine Kn_eq (by rw [x_putAt]) (Kn_no _)
theorem kn_putImage : ∀ (k b : Nat) (L : Nat → Int32) (σ : MS), Kn (x_putImage k b L σ) (kn σ) := by
  intro k
  induction k with
  | zero => intro b L σ; exact Kn_no _
  | succ k ih =>
    intro b L σ
    match b with
    | 0 =>
      refine Kn_eq (by rw [x_putImage]) ?_
      exact Kn_ob (Kn_c rfl (kn_isMap _ _ _ _)) (fun _ h469 => Kn_ite (Kn_c h469 (ih _ _ _)) (Kn_ob (Kn_c h469 (kn_kind _ _ _ _)) (fun _ h470 => Kn_ite (Kn_c h470 (ih _ _ _)) (Kn_c h470 (ih _ _ _)))))
    | 1 =>
      refine Kn_eq (by rw [x_putImage]) ?_
      exact Kn_ob (Kn_c rfl (kn_wrongKind _ _ _ _)) (fun _ h471 => Kn_so h471)
    | 2 =>
      refine Kn_eq (by rw [x_putImage]) ?_
      exact Kn_ob (Kn_c rfl (kn_pushOthers _ _ _ _)) (fun _ h472 => Kn_c h472 (ih _ _ _))
    | 3 =>
      refine Kn_eq (by rw [x_putImage]) ?_
      exact Kn_ite (Kn_ite (Kn_c rfl (ih _ _ _)) (Kn_ite (Kn_ite (Kn_ob (Kn_c rfl (kn_pair _ _ _ _)) (fun _ h473 => Kn_ob (Kn_c h473 (kn_push _ _ _ _)) (fun _ h474 => Kn_c h474 (ih _ _ _)))) (Kn_no _)) (Kn_c rfl (ih _ _ _)))) (Kn_no _)
    | 4 =>
      refine Kn_eq (by rw [x_putImage]) ?_
      exact Kn_ite (Kn_c rfl (ih _ _ _)) (Kn_c rfl (ih _ _ _))
    | 5 =>
      refine Kn_eq (by rw [x_putImage]) ?_
      exact Kn_ob (Kn_c rfl (kn_setOf _ _ _ _)) (fun _ h475 => Kn_c h475 (ih _ _ _))
    | 6 =>
      refine Kn_eq (by rw [x_putImage]) ?_
      exact Kn_so rfl
    | b + 7 =>
      refine Kn_eq (by rw [x_putImage]) (Kn_no _)
theorem kn_putSlice : ∀ (k b : Nat) (L : Nat → Int32) (σ : MS), Kn (x_putSlice k b L σ) (kn σ) := by
  intro k
  induction k with
  | zero => intro b L σ; exact Kn_no _
  | succ k ih =>
    intro b L σ
    match b with
    | 0 =>
      refine Kn_eq (by rw [x_putSlice]) ?_
      exact Kn_ob (Kn_c rfl (kn_isSlice _ _ _ _)) (fun _ h476 => Kn_ite (Kn_so h476) (Kn_c h476 (ih _ _ _)))
    | 1 =>
      refine Kn_eq (by rw [x_putSlice]) ?_
      exact Kn_ob (Kn_c rfl (kn_kind _ _ _ _)) (fun _ h477 => Kn_ob (Kn_c h477 (kn_kind _ _ _ _)) (fun _ h478 => Kn_ite (Kn_c h478 (ih _ _ _)) (Kn_ob (Kn_c h478 (kn_wrongKind _ _ _ _)) (fun _ h479 => Kn_so h479))))
    | 2 =>
      refine Kn_eq (by rw [x_putSlice]) ?_
      exact Kn_ob (Kn_c rfl (kn_isSliceIn _ _ _ _)) (fun _ h480 => Kn_ite (Kn_so h480) (Kn_c h480 (ih _ _ _)))
    | 3 =>
      refine Kn_eq (by rw [x_putSlice]) ?_
      exact Kn_ite (Kn_ite (Kn_ite (Kn_ite (Kn_c rfl (ih _ _ _)) (Kn_c rfl (ih _ _ _))) (Kn_no _)) (Kn_no _)) (Kn_no _)
    | 4 =>
      refine Kn_eq (by rw [x_putSlice]) ?_
      exact Kn_ite (Kn_c rfl (ih _ _ _)) (Kn_ite (Kn_ite (Kn_c rfl (ih _ _ _)) (Kn_no _)) (Kn_no _))
    | 5 =>
      refine Kn_eq (by rw [x_putSlice]) ?_
      exact Kn_c rfl (ih _ _ _)
    | 6 =>
      refine Kn_eq (by rw [x_putSlice]) ?_
      exact Kn_c rfl (ih _ _ _)
    | 7 =>
      refine Kn_eq (by rw [x_putSlice]) ?_
      exact Kn_ite (Kn_c rfl (ih _ _ _)) (Kn_ite (Kn_ite (Kn_c rfl (ih _ _ _)) (Kn_no _)) (Kn_no _))
    | 8 =>
      refine Kn_eq (by rw [x_putSlice]) ?_
      exact Kn_c rfl (ih _ _ _)
    | 9 =>
      refine Kn_eq (by rw [x_putSlice]) ?_
      exact Kn_c rfl (ih _ _ _)
    | 10 =>
      refine Kn_eq (by rw [x_putSlice]) ?_
      exact Kn_ite (Kn_c rfl (ih _ _ _)) (Kn_ite (Kn_ite (Kn_c rfl (ih _ _ _)) (Kn_no _)) (Kn_no _))
    | 11 =>
      refine Kn_eq (by rw [x_putSlice]) ?_
      exact Kn_c rfl (ih _ _ _)
    | 12 =>
      refine Kn_eq (by rw [x_putSlice]) ?_
      exact Kn_ob (Kn_c rfl (kn_stringOf__51 _ _ _ _)) (fun _ h481 => Kn_so h481)
    | 13 =>
      refine Kn_eq (by rw [x_putSlice]) ?_
      exact Kn_c rfl (ih _ _ _)
    | 14 =>
      refine Kn_eq (by rw [x_putSlice]) ?_
      exact Kn_ite (Kn_c rfl (ih _ _ _)) (Kn_ite (Kn_ob (Kn_c rfl (kn_push _ _ _ _)) (fun _ h482 => Kn_c h482 (ih _ _ _))) (Kn_no _))
    | 15 =>
      refine Kn_eq (by rw [x_putSlice]) ?_
      exact Kn_c rfl (ih _ _ _)
    | 16 =>
      refine Kn_eq (by rw [x_putSlice]) ?_
      exact Kn_ite (Kn_c rfl (ih _ _ _)) (Kn_ite (Kn_ob (Kn_c rfl (kn_push _ _ _ _)) (fun _ h483 => Kn_c h483 (ih _ _ _))) (Kn_no _))
    | 17 =>
      refine Kn_eq (by rw [x_putSlice]) ?_
      exact Kn_c rfl (ih _ _ _)
    | 18 =>
      refine Kn_eq (by rw [x_putSlice]) ?_
      exact Kn_ite (Kn_c rfl (ih _ _ _)) (Kn_ite (Kn_ob (Kn_c rfl (kn_push _ _ _ _)) (fun _ h484 => Kn_c h484 (ih _ _ _))) (Kn_no _))
    | 19 =>
      refine Kn_eq (by rw [x_putSlice]) ?_
      exact Kn_ob (Kn_c rfl (kn_tupleOf _ _ _ _)) (fun _ h485 => Kn_so h485)
    | b + 20 =>
      refine Kn_eq (by rw [x_putSlice]) (Kn_no _)
theorem kn_assign : ∀ (k b : Nat) (L : Nat → Int32) (σ : MS), Kn (x_assign k b L σ) (kn σ) := by
  intro k
  induction k with
  | zero => intro b L σ; exact Kn_no _
  | succ k ih =>
    intro b L σ
    match b with
    | 0 =>
      refine Kn_eq (by rw [x_assign]) ?_
      exact Kn_ite (Kn_c rfl (ih _ _ _)) (Kn_so rfl)
    | 1 =>
      refine Kn_eq (by rw [x_assign]) ?_
      exact Kn_ob (Kn_c rfl (kn_valueOf _ _ _ _)) (fun _ h486 => Kn_ob (Kn_c h486 (kn_size _ _ _ _)) (fun _ h487 => Kn_ob (Kn_c h487 (kn_size _ _ _ _)) (fun _ h488 => Kn_ite (Kn_c h488 (ih _ _ _)) (Kn_ob (Kn_c h488 (kn_fail _ _ _ _)) (fun _ h489 => Kn_so h489)))))
    | 2 =>
      refine Kn_eq (by rw [x_assign]) ?_
      exact Kn_ob (Kn_c rfl (kn_size _ _ _ _)) (fun _ h490 => Kn_c h490 (ih _ _ _))
    | 3 =>
      refine Kn_eq (by rw [x_assign]) ?_
      exact Kn_ob (Kn_c rfl (kn_bindOne _ _ _ _)) (fun _ h491 => Kn_so h491)
    | b + 4 =>
      refine Kn_eq (by rw [x_assign]) (Kn_no _)
theorem kn_write : ∀ (k b : Nat) (L : Nat → Int32) (σ : MS), Kn (x_write k b L σ) (kn σ) := by
  intro k
  induction k with
  | zero => intro b L σ; exact Kn_no _
  | succ k ih =>
    intro b L σ
    match b with
    | 0 =>
      refine Kn_eq (by rw [x_write]) ?_
      exact Kn_ite (Kn_c rfl (ih _ _ _)) (Kn_so rfl)
    | 1 =>
      refine Kn_eq (by rw [x_write]) ?_
      exact Kn_ob (Kn_c rfl (kn_readParts _ _ _ _)) (fun _ h492 => Kn_ob (Kn_c h492 (kn_keysIn _ _ _ _)) (fun _ h493 => Kn_ite (Kn_ob (Kn_c h493 (kn_push _ _ _ _)) (fun _ h494 => Kn_c h494 (ih _ _ _))) (Kn_no _)))
    | 2 =>
      refine Kn_eq (by rw [x_write]) ?_
      exact Kn_ite (Kn_ite (Kn_c rfl (ih _ _ _)) (Kn_ite (Kn_ite (Kn_ob (Kn_c rfl (kn_keysOf _ _ _ _)) (fun _ h495 => Kn_ob (Kn_c h495 (kn_sweep _ _ _ _)) (fun _ h496 => Kn_ite (Kn_ite (Kn_ite (Kn_ite (Kn_ite (Kn_ob (Kn_c h496 (kn_putAt _ _ _ _)) (fun _ h497 => Kn_c h497 (ih _ _ _))) (Kn_no _)) (Kn_no _)) (Kn_c h496 (ih _ _ _))) (Kn_no _)) (Kn_no _)))) (Kn_no _)) (Kn_c rfl (ih _ _ _)))) (Kn_no _)
    | 3 =>
      refine Kn_eq (by rw [x_write]) ?_
      exact Kn_ite (Kn_ite (Kn_ite (Kn_ite (Kn_ob (Kn_c rfl (kn_putImage _ _ _ _)) (fun _ h498 => Kn_c h498 (ih _ _ _))) (Kn_no _)) (Kn_no _)) (Kn_c rfl (ih _ _ _))) (Kn_no _)
    | 4 =>
      refine Kn_eq (by rw [x_write]) ?_
      exact Kn_ite (Kn_ite (Kn_ite (Kn_ob (Kn_c rfl (kn_putSlice _ _ _ _)) (fun _ h499 => Kn_c h499 (ih _ _ _))) (Kn_no _)) (Kn_no _)) (Kn_no _)
    | 5 =>
      refine Kn_eq (by rw [x_write]) ?_
      exact Kn_ob (Kn_c rfl (kn_answer _ _ _ _)) (fun _ h500 => Kn_ite (Kn_c h500 (ih _ _ _)) (Kn_no _))
    | 6 =>
      refine Kn_eq (by rw [x_write]) ?_
      exact Kn_ite (Kn_c rfl (ih _ _ _)) (Kn_no _)
    | 7 =>
      refine Kn_eq (by rw [x_write]) ?_
      exact Kn_c rfl (ih _ _ _)
    | 8 =>
      refine Kn_eq (by rw [x_write]) ?_
      exact Kn_ite (Kn_ite (Kn_ob (Kn_c rfl (kn_assign _ _ _ _)) (fun _ h501 => Kn_c h501 (ih _ _ _))) (Kn_no _)) (Kn_c rfl (ih _ _ _))
    | 9 =>
      refine Kn_eq (by rw [x_write]) ?_
      exact Kn_so rfl
    | b + 10 =>
      refine Kn_eq (by rw [x_write]) (Kn_no _)
theorem kn_dropIter : ∀ (k b : Nat) (L : Nat → Int32) (σ : MS), Kn (x_dropIter k b L σ) (kn σ) := by
  intro k
  induction k with
  | zero => intro b L σ; exact Kn_no _
  | succ k ih =>
    intro b L σ
    match b with
    | 0 =>
      refine Kn_eq (by rw [x_dropIter]) ?_
      exact Kn_ite (Kn_ite (Kn_c rfl (ih _ _ _)) (Kn_no _)) (Kn_no _)
    | 1 =>
      refine Kn_eq (by rw [x_dropIter]) ?_
      exact Kn_ite (Kn_ite (Kn_ob (Kn_c rfl (kn_size _ _ _ _)) (fun _ h502 => Kn_so h502)) (Kn_no _)) (Kn_no _)
    | b + 2 =>
      refine Kn_eq (by rw [x_dropIter]) (Kn_no _)
theorem kn_closeFor : ∀ (k b : Nat) (L : Nat → Int32) (σ : MS), Kn (x_closeFor k b L σ) (kn σ) := by
  intro k
  induction k with
  | zero => intro b L σ; exact Kn_no _
  | succ k ih =>
    intro b L σ
    match b with
    | 0 =>
      refine Kn_eq (by rw [x_closeFor]) ?_
      exact Kn_ite (Kn_c rfl (ih _ _ _)) (Kn_no _)
    | 1 =>
      refine Kn_eq (by rw [x_closeFor]) ?_
      exact Kn_ite (Kn_ite (Kn_ite (Kn_c rfl (ih _ _ _)) (Kn_ob (Kn_c rfl (kn_dropIter _ _ _ _)) (fun _ h503 => Kn_c h503 (ih _ _ _)))) (Kn_no _)) (Kn_no _)
    | 2 =>
      refine Kn_eq (by rw [x_closeFor]) ?_
      exact Kn_ite (Kn_ite (Kn_c rfl (ih _ _ _)) (Kn_no _)) (Kn_no _)
    | 3 =>
      refine Kn_eq (by rw [x_closeFor]) ?_
      exact Kn_ite (Kn_ite (Kn_c rfl (ih _ _ _)) (Kn_no _)) (Kn_no _)
    | 4 =>
      refine Kn_eq (by rw [x_closeFor]) ?_
      exact Kn_ite (Kn_c rfl (ih _ _ _)) (Kn_ite (Kn_c rfl (ih _ _ _)) (Kn_no _))
    | 5 =>
      refine Kn_eq (by rw [x_closeFor]) ?_
      exact Kn_ite (Kn_c rfl (ih _ _ _)) (Kn_ob (Kn_c rfl (kn_valueOf _ _ _ _)) (fun _ h504 => Kn_ob (Kn_c h504 (kn_size _ _ _ _)) (fun _ h505 => Kn_c h505 (ih _ _ _))))
    | 6 =>
      refine Kn_eq (by rw [x_closeFor]) ?_
      exact Kn_ob (Kn_c rfl (kn_bindOne _ _ _ _)) (fun _ h506 => Kn_ite (Kn_c h506 (ih _ _ _)) (Kn_no _))
    | 7 =>
      refine Kn_eq (by rw [x_closeFor]) ?_
      exact Kn_ite (Kn_c rfl (ih _ _ _)) (Kn_no _)
    | 8 =>
      refine Kn_eq (by rw [x_closeFor]) ?_
      exact Kn_so rfl
    | b + 9 =>
      refine Kn_eq (by rw [x_closeFor]) (Kn_no _)
theorem kn_writeWorked : ∀ (k b : Nat) (L : Nat → Int32) (σ : MS), Kn (x_writeWorked k b L σ) (kn σ) := by
  intro k
  induction k with
  | zero => intro b L σ; exact Kn_no _
  | succ k ih =>
    intro b L σ
    match b with
    | 0 =>
      refine Kn_eq (by rw [x_writeWorked]) ?_
      exact Kn_ob (Kn_c rfl (kn_workParts _ _ _ _)) (fun _ h507 => Kn_ob (Kn_c h507 (kn_write _ _ _ _)) (fun _ h508 => Kn_so h508))
    | b + 1 =>
      refine Kn_eq (by rw [x_writeWorked]) (Kn_no _)
theorem kn_giveBack : ∀ (k b : Nat) (L : Nat → Int32) (σ : MS), Kn (x_giveBack k b L σ) (kn σ) := by
  intro k
  induction k with
  | zero => intro b L σ; exact Kn_no _
  | succ k ih =>
    intro b L σ
    match b with
    | 0 =>
      refine Kn_eq (by rw [x_giveBack]) ?_
      exact Kn_ite (Kn_ite (Kn_ite (Kn_c rfl (ih _ _ _)) (Kn_no _)) (Kn_no _)) (Kn_no _)
    | 1 =>
      refine Kn_eq (by rw [x_giveBack]) ?_
      exact Kn_ite (Kn_ite (Kn_ite (Kn_c rfl (ih _ _ _)) (Kn_ob (Kn_c rfl (kn_closeFor _ _ _ _)) (fun _ h509 => Kn_c h509 (ih _ _ _)))) (Kn_no _)) (Kn_no _)
    | 2 =>
      refine Kn_eq (by rw [x_giveBack]) ?_
      exact Kn_c rfl (ih _ _ _)
    | 3 =>
      refine Kn_eq (by rw [x_giveBack]) ?_
      exact Kn_ite (Kn_ite (Kn_c rfl (ih _ _ _)) (Kn_ite (Kn_ob (Kn_c rfl (kn_push _ _ _ _)) (fun _ h510 => Kn_c h510 (ih _ _ _))) (Kn_no _))) (Kn_no _)
    | 4 =>
      refine Kn_eq (by rw [x_giveBack]) ?_
      exact Kn_ob (Kn_c rfl (kn_push _ _ _ _)) (fun _ h511 => Kn_c h511 (ih _ _ _))
    | 5 =>
      refine Kn_eq (by rw [x_giveBack]) ?_
      exact Kn_ite (Kn_ite (Kn_c rfl (ih _ _ _)) (Kn_ite (Kn_ite (Kn_c rfl (ih _ _ _)) (Kn_ite (Kn_ob (Kn_c rfl (kn_size _ _ _ _)) (fun _ h512 => Kn_c h512 (ih _ _ _))) (Kn_no _))) (Kn_no _))) (Kn_no _)
    | 6 =>
      refine Kn_eq (by rw [x_giveBack]) ?_
      exact Kn_c rfl (ih _ _ _)
    | 7 =>
      refine Kn_eq (by rw [x_giveBack]) ?_
      exact Kn_c rfl (ih _ _ _)
    | 8 =>
      refine Kn_eq (by rw [x_giveBack]) ?_
      exact Kn_c rfl (ih _ _ _)
    | 9 =>
      refine Kn_eq (by rw [x_giveBack]) ?_
      exact Kn_ite (Kn_ite (Kn_c rfl (ih _ _ _)) (Kn_no _)) (Kn_no _)
    | 10 =>
      refine Kn_eq (by rw [x_giveBack]) ?_
      exact Kn_ite (Kn_c rfl (ih _ _ _)) (Kn_no _)
    | 11 =>
      refine Kn_eq (by rw [x_giveBack]) ?_
      exact Kn_ite (Kn_c rfl (ih _ _ _)) (Kn_ite (Kn_ite (Kn_ite (Kn_c rfl (ih _ _ _)) (Kn_ob (Kn_c rfl (kn_writeWorked _ _ _ _)) (fun _ h513 => Kn_c h513 (ih _ _ _)))) (Kn_no _)) (Kn_c rfl (ih _ _ _)))
    | 12 =>
      refine Kn_eq (by rw [x_giveBack]) ?_
      exact Kn_ite (Kn_c rfl (ih _ _ _)) (Kn_no _)
    | 13 =>
      refine Kn_eq (by rw [x_giveBack]) ?_
      exact Kn_ite (Kn_ite (Kn_ite (Kn_c rfl (ih _ _ _)) (Kn_ite (Kn_ite (Kn_ob (Kn_c rfl (kn_writeWorked _ _ _ _)) (fun _ h514 => Kn_c h514 (ih _ _ _))) (Kn_no _)) (Kn_no _))) (Kn_no _)) (Kn_c rfl (ih _ _ _))
    | 14 =>
      refine Kn_eq (by rw [x_giveBack]) ?_
      exact Kn_c rfl (ih _ _ _)
    | 15 =>
      refine Kn_eq (by rw [x_giveBack]) ?_
      exact Kn_ite (Kn_c rfl (ih _ _ _)) (Kn_c rfl (ih _ _ _))
    | 16 =>
      refine Kn_eq (by rw [x_giveBack]) ?_
      exact Kn_c rfl (ih _ _ _)
    | 17 =>
      refine Kn_eq (by rw [x_giveBack]) ?_
      exact Kn_so rfl
    | b + 18 =>
      refine Kn_eq (by rw [x_giveBack]) (Kn_no _)
theorem kn_iterOf : ∀ (k b : Nat) (L : Nat → Int32) (σ : MS), Kn (x_iterOf k b L σ) (kn σ) := by
  intro k
  induction k with
  | zero => intro b L σ; exact Kn_no _
  | succ k ih =>
    intro b L σ
    match b with
    | 0 =>
      refine Kn_eq (by rw [x_iterOf]) ?_
      exact Kn_ite (Kn_c rfl (ih _ _ _)) (Kn_no _)
    | 1 =>
      refine Kn_eq (by rw [x_iterOf]) ?_
      exact Kn_ite (Kn_c rfl (ih _ _ _)) (Kn_ite (Kn_c rfl (ih _ _ _)) (Kn_no _))
    | 2 =>
      refine Kn_eq (by rw [x_iterOf]) ?_
      exact Kn_so rfl
    | b + 3 =>
      refine Kn_eq (by rw [x_iterOf]) (Kn_no _)
theorem kn_openFor : ∀ (k b : Nat) (L : Nat → Int32) (σ : MS), Kn (x_openFor k b L σ) (kn σ) := by
  intro k
  induction k with
  | zero => intro b L σ; exact Kn_no _
  | succ k ih =>
    intro b L σ
    match b with
    | 0 =>
      refine Kn_eq (by rw [x_openFor]) ?_
      exact Kn_ite (Kn_ob (Kn_c rfl (kn_eval _ _ _ _)) (fun _ h515 => Kn_ite (Kn_c h515 (ih _ _ _)) (Kn_so h515))) (Kn_no _)
    | 1 =>
      refine Kn_eq (by rw [x_openFor]) ?_
      exact Kn_ob (Kn_c rfl (kn_pop _ _ _ _)) (fun _ h516 => Kn_ob (Kn_c h516 (kn_isRow _ _ _ _)) (fun _ h517 => Kn_ite (Kn_ob (Kn_c h517 (kn_fail _ _ _ _)) (fun _ h518 => Kn_so h518)) (Kn_c h517 (ih _ _ _))))
    | 2 =>
      refine Kn_eq (by rw [x_openFor]) ?_
      exact Kn_ob (Kn_c rfl (kn_size _ _ _ _)) (fun _ h519 => Kn_ite (Kn_c h519 (ih _ _ _)) (Kn_ob (Kn_c h519 (kn_fail _ _ _ _)) (fun _ h520 => Kn_so h520)))
    | 3 =>
      refine Kn_eq (by rw [x_openFor]) ?_
      exact Kn_ob (Kn_c rfl (kn_size _ _ _ _)) (fun _ h521 => Kn_c h521 (ih _ _ _))
    | 4 =>
      refine Kn_eq (by rw [x_openFor]) ?_
      exact Kn_ite (Kn_ite (Kn_c rfl (ih _ _ _)) (Kn_no _)) (Kn_no _)
    | 5 =>
      refine Kn_eq (by rw [x_openFor]) ?_
      exact Kn_ite (Kn_ite (Kn_c rfl (ih _ _ _)) (Kn_no _)) (Kn_no _)
    | 6 =>
      refine Kn_eq (by rw [x_openFor]) ?_
      exact Kn_ite (Kn_ite (Kn_so rfl) (Kn_no _)) (Kn_no _)
    | b + 7 =>
      refine Kn_eq (by rw [x_openFor]) (Kn_no _)
theorem kn_stepFor : ∀ (k b : Nat) (L : Nat → Int32) (σ : MS), Kn (x_stepFor k b L σ) (kn σ) := by
  intro k
  induction k with
  | zero => intro b L σ; exact Kn_no _
  | succ k ih =>
    intro b L σ
    match b with
    | 0 =>
      refine Kn_eq (by rw [x_stepFor]) ?_
      exact Kn_ite (Kn_ite (Kn_ite (Kn_ite (Kn_ite (Kn_so rfl) (Kn_c rfl (ih _ _ _))) (Kn_no _)) (Kn_no _)) (Kn_no _)) (Kn_no _)
    | 1 =>
      refine Kn_eq (by rw [x_stepFor]) ?_
      exact Kn_ite (Kn_c rfl (ih _ _ _)) (Kn_no _)
    | 2 =>
      refine Kn_eq (by rw [x_stepFor]) ?_
      exact Kn_ob (Kn_c rfl (kn_worked _ _ _ _)) (fun _ h522 => Kn_ite (Kn_c h522 (ih _ _ _)) (Kn_so h522))
    | 3 =>
      refine Kn_eq (by rw [x_stepFor]) ?_
      exact Kn_ob (Kn_c rfl (kn_memberAt _ _ _ _)) (fun _ h523 => Kn_ite (Kn_ite (Kn_ite (Kn_ob (Kn_c h523 (kn_assign _ _ _ _)) (fun _ h524 => Kn_ite (Kn_c h524 (ih _ _ _)) (Kn_c h524 (ih _ _ _)))) (Kn_no _)) (Kn_c h523 (ih _ _ _))) (Kn_no _))
    | 4 =>
      refine Kn_eq (by rw [x_stepFor]) ?_
      exact Kn_c rfl (ih _ _ _)
    | 5 =>
      refine Kn_eq (by rw [x_stepFor]) ?_
      exact Kn_ite (Kn_so rfl) (Kn_no _)
    | 6 =>
      refine Kn_eq (by rw [x_stepFor]) ?_
      exact Kn_ite (Kn_c rfl (ih _ _ _)) (Kn_no _)
    | 7 =>
      refine Kn_eq (by rw [x_stepFor]) ?_
      exact Kn_ite (Kn_c rfl (ih _ _ _)) (Kn_ite (Kn_c rfl (ih _ _ _)) (Kn_no _))
    | 8 =>
      refine Kn_eq (by rw [x_stepFor]) ?_
      exact Kn_ob (Kn_c rfl (kn_kind _ _ _ _)) (fun _ h525 => Kn_ite (Kn_ite (Kn_ite (Kn_c h525 (ih _ _ _)) (Kn_c h525 (ih _ _ _))) (Kn_no _)) (Kn_c h525 (ih _ _ _)))
    | 9 =>
      refine Kn_eq (by rw [x_stepFor]) ?_
      exact Kn_ob (Kn_c rfl (kn_fail _ _ _ _)) (fun _ h526 => Kn_so h526)
    | 10 =>
      refine Kn_eq (by rw [x_stepFor]) ?_
      exact Kn_ite (Kn_c rfl (ih _ _ _)) (Kn_no _)
    | 11 =>
      refine Kn_eq (by rw [x_stepFor]) ?_
      exact Kn_ite (Kn_c rfl (ih _ _ _)) (Kn_ite (Kn_ite (Kn_c rfl (ih _ _ _)) (Kn_ite (Kn_c rfl (ih _ _ _)) (Kn_no _))) (Kn_no _))
    | 12 =>
      refine Kn_eq (by rw [x_stepFor]) ?_
      exact Kn_c rfl (ih _ _ _)
    | 13 =>
      refine Kn_eq (by rw [x_stepFor]) ?_
      exact Kn_ob (Kn_c rfl (kn_assign _ _ _ _)) (fun _ h527 => Kn_ite (Kn_c h527 (ih _ _ _)) (Kn_no _))
    | 14 =>
      refine Kn_eq (by rw [x_stepFor]) ?_
      exact Kn_ite (Kn_c rfl (ih _ _ _)) (Kn_c rfl (ih _ _ _))
    | 15 =>
      refine Kn_eq (by rw [x_stepFor]) ?_
      exact Kn_c rfl (ih _ _ _)
    | 16 =>
      refine Kn_eq (by rw [x_stepFor]) ?_
      exact Kn_ite (Kn_so rfl) (Kn_no _)
    | b + 17 =>
      refine Kn_eq (by rw [x_stepFor]) (Kn_no _)
theorem kn_nextTurn : ∀ (k b : Nat) (L : Nat → Int32) (σ : MS), Kn (x_nextTurn k b L σ) (kn σ) := by
  intro k
  induction k with
  | zero => intro b L σ; exact Kn_no _
  | succ k ih =>
    intro b L σ
    match b with
    | 0 =>
      refine Kn_eq (by rw [x_nextTurn]) ?_
      exact Kn_c rfl (ih _ _ _)
    | 1 =>
      refine Kn_eq (by rw [x_nextTurn]) ?_
      exact Kn_ite (Kn_ob (Kn_c rfl (kn_sweep _ _ _ _)) (fun _ h528 => Kn_ite (Kn_ite (Kn_c h528 (ih _ _ _)) (Kn_ob (Kn_c h528 (kn_iterOf _ _ _ _)) (fun _ h529 => Kn_ob (Kn_c h529 (kn_openFor _ _ _ _)) (fun _ h530 => Kn_ite (Kn_c h530 (ih _ _ _)) (Kn_so h530))))) (Kn_no _))) (Kn_c rfl (ih _ _ _))
    | 2 =>
      refine Kn_eq (by rw [x_nextTurn]) ?_
      exact Kn_ite (Kn_so rfl) (Kn_c rfl (ih _ _ _))
    | 3 =>
      refine Kn_eq (by rw [x_nextTurn]) ?_
      exact Kn_ob (Kn_c rfl (kn_iterOf _ _ _ _)) (fun _ h531 => Kn_ob (Kn_c h531 (kn_stepFor _ _ _ _)) (fun _ h532 => Kn_ite (Kn_ite (Kn_ob (Kn_c h532 (kn_dropIter _ _ _ _)) (fun _ h533 => Kn_c h533 (ih _ _ _))) (Kn_c h532 (ih _ _ _))) (Kn_c h532 (ih _ _ _))))
    | 4 =>
      refine Kn_eq (by rw [x_nextTurn]) ?_
      exact Kn_ite (Kn_c rfl (ih _ _ _)) (Kn_ite (Kn_ite (Kn_so rfl) (Kn_c rfl (ih _ _ _))) (Kn_no _))
    | 5 =>
      refine Kn_eq (by rw [x_nextTurn]) ?_
      exact Kn_c rfl (ih _ _ _)
    | 6 =>
      refine Kn_eq (by rw [x_nextTurn]) ?_
      exact Kn_so rfl
    | b + 7 =>
      refine Kn_eq (by rw [x_nextTurn]) (Kn_no _)
theorem kn_holds (k b : Nat) (L : Nat → Int32) (σ : MS) : Kn (x_holds k b L σ) (kn σ) := kn_GV k 1300 8 b L σ
theorem kn_seek : ∀ (k b : Nat) (L : Nat → Int32) (σ : MS), Kn (x_seek k b L σ) (kn σ) := by
  intro k
  induction k with
  | zero => intro b L σ; exact Kn_no _
  | succ k ih =>
    intro b L σ
    match b with
    | 0 =>
      refine Kn_eq (by rw [x_seek]) ?_
      exact Kn_ite (Kn_ite (Kn_ob (Kn_c rfl (kn_nextTurn _ _ _ _)) (fun _ h534 => Kn_c h534 (ih _ _ _))) (Kn_no _)) (Kn_no _)
    | 1 =>
      refine Kn_eq (by rw [x_seek]) ?_
      exact Kn_ite (Kn_c rfl (ih _ _ _)) (Kn_ite (Kn_ite (Kn_ite (Kn_c rfl (ih _ _ _)) (Kn_ite (Kn_ite (Kn_c rfl (ih _ _ _)) (Kn_c rfl (ih _ _ _))) (Kn_no _))) (Kn_no _)) (Kn_c rfl (ih _ _ _)))
    | 2 =>
      refine Kn_eq (by rw [x_seek]) ?_
      exact Kn_ite (Kn_ite (Kn_c rfl (ih _ _ _)) (Kn_ite (Kn_ob (Kn_c rfl (kn_holds _ _ _ _)) (fun _ h535 => Kn_ite (Kn_c h535 (ih _ _ _)) (Kn_c h535 (ih _ _ _)))) (Kn_no _))) (Kn_no _)
    | 3 =>
      refine Kn_eq (by rw [x_seek]) ?_
      exact Kn_c rfl (ih _ _ _)
    | 4 =>
      refine Kn_eq (by rw [x_seek]) ?_
      exact Kn_c rfl (ih _ _ _)
    | 5 =>
      refine Kn_eq (by rw [x_seek]) ?_
      exact Kn_ite (Kn_c rfl (ih _ _ _)) (Kn_ite (Kn_ite (Kn_c rfl (ih _ _ _)) (Kn_c rfl (ih _ _ _))) (Kn_no _))
    | 6 =>
      refine Kn_eq (by rw [x_seek]) ?_
      exact Kn_ite (Kn_ob (Kn_c rfl (kn_nextTurn _ _ _ _)) (fun _ h536 => Kn_ite (Kn_c h536 (ih _ _ _)) (Kn_c h536 (ih _ _ _)))) (Kn_c rfl (ih _ _ _))
    | 7 =>
      refine Kn_eq (by rw [x_seek]) ?_
      exact Kn_c rfl (ih _ _ _)
    | 8 =>
      refine Kn_eq (by rw [x_seek]) ?_
      exact Kn_c rfl (ih _ _ _)
    | 9 =>
      refine Kn_eq (by rw [x_seek]) ?_
      exact Kn_ite (Kn_c rfl (ih _ _ _)) (Kn_so rfl)
    | 10 =>
      refine Kn_eq (by rw [x_seek]) ?_
      exact Kn_ite (Kn_c rfl (ih _ _ _)) (Kn_ite (Kn_ite (Kn_c rfl (ih _ _ _)) (Kn_no _)) (Kn_no _))
    | 11 =>
      refine Kn_eq (by rw [x_seek]) ?_
      exact Kn_so rfl
    | 12 =>
      refine Kn_eq (by rw [x_seek]) ?_
      exact Kn_ob (Kn_c rfl (kn_closeFor _ _ _ _)) (fun _ h537 => Kn_so h537)
    | b + 13 =>
      refine Kn_eq (by rw [x_seek]) (Kn_no _)
theorem kn_done : ∀ (k b : Nat) (L : Nat → Int32) (σ : MS), Kn (x_done k b L σ) (kn σ) := by
  intro k
  induction k with
  | zero => intro b L σ; exact Kn_no _
  | succ k ih =>
    intro b L σ
    match b with
    | 0 =>
      refine Kn_eq (by rw [x_done]) ?_
      exact Kn_ite (Kn_c rfl (ih _ _ _)) (Kn_so rfl)
    | 1 =>
      refine Kn_eq (by rw [x_done]) ?_
      exact Kn_ite (Kn_ite (Kn_ite (Kn_c rfl (ih _ _ _)) (Kn_ob (Kn_c rfl (kn_giveBack _ _ _ _)) (fun _ h538 => Kn_so h538))) (Kn_no _)) (Kn_c rfl (ih _ _ _))
    | 2 =>
      refine Kn_eq (by rw [x_done]) ?_
      exact Kn_c rfl (ih _ _ _)
    | 3 =>
      refine Kn_eq (by rw [x_done]) ?_
      exact Kn_so rfl
    | 4 =>
      refine Kn_eq (by rw [x_done]) ?_
      exact Kn_ite (Kn_ite (Kn_ite (Kn_c rfl (ih _ _ _)) (Kn_no _)) (Kn_c rfl (ih _ _ _))) (Kn_no _)
    | 5 =>
      refine Kn_eq (by rw [x_done]) ?_
      exact Kn_so rfl
    | 6 =>
      refine Kn_eq (by rw [x_done]) ?_
      exact Kn_ite (Kn_ite (Kn_ob (Kn_c rfl (kn_seek _ _ _ _)) (fun _ h539 => Kn_c h539 (ih _ _ _))) (Kn_c rfl (ih _ _ _))) (Kn_no _)
    | 7 =>
      refine Kn_eq (by rw [x_done]) ?_
      exact Kn_c rfl (ih _ _ _)
    | 8 =>
      refine Kn_eq (by rw [x_done]) ?_
      exact Kn_so rfl
    | b + 9 =>
      refine Kn_eq (by rw [x_done]) (Kn_no _)
theorem kn_finished : ∀ (k b : Nat) (L : Nat → Int32) (σ : MS), Kn (x_finished k b L σ) (kn σ) := by
  intro k
  induction k with
  | zero => intro b L σ; exact Kn_no _
  | succ k ih =>
    intro b L σ
    match b with
    | 0 =>
      refine Kn_eq (by rw [x_finished]) ?_
      exact Kn_c rfl (ih _ _ _)
    | 1 =>
      refine Kn_eq (by rw [x_finished]) ?_
      exact Kn_ite (Kn_c rfl (ih _ _ _)) (Kn_ob (Kn_c rfl (kn_done _ _ _ _)) (fun _ h540 => Kn_ite (Kn_c h540 (ih _ _ _)) (Kn_c h540 (ih _ _ _))))
    | 2 =>
      refine Kn_eq (by rw [x_finished]) ?_
      exact Kn_c rfl (ih _ _ _)
    | 3 =>
      refine Kn_eq (by rw [x_finished]) ?_
      exact Kn_ite (Kn_c rfl (ih _ _ _)) (Kn_ite (Kn_ite (Kn_c rfl (ih _ _ _)) (Kn_ite (Kn_ite (Kn_c rfl (ih _ _ _)) (Kn_no _)) (Kn_no _))) (Kn_no _))
    | 4 =>
      refine Kn_eq (by rw [x_finished]) ?_
      exact Kn_c rfl (ih _ _ _)
    | 5 =>
      refine Kn_eq (by rw [x_finished]) ?_
      exact Kn_ite (Kn_c rfl (ih _ _ _)) (Kn_ite (Kn_ite (Kn_c rfl (ih _ _ _)) (Kn_no _)) (Kn_no _))
    | 6 =>
      refine Kn_eq (by rw [x_finished]) ?_
      exact Kn_c rfl (ih _ _ _)
    | 7 =>
      refine Kn_eq (by rw [x_finished]) ?_
      exact Kn_so rfl
    | b + 8 =>
      refine Kn_eq (by rw [x_finished]) (Kn_no _)
theorem kn_goOnBehind : ∀ (k b : Nat) (L : Nat → Int32) (σ : MS), Kn (x_goOnBehind k b L σ) (kn σ) := by
  intro k
  induction k with
  | zero => intro b L σ; exact Kn_no _
  | succ k ih =>
    intro b L σ
    match b with
    | 0 =>
      refine Kn_eq (by rw [x_goOnBehind]) ?_
      exact Kn_ite (Kn_so rfl) (Kn_c rfl (ih _ _ _))
    | 1 =>
      refine Kn_eq (by rw [x_goOnBehind]) ?_
      exact Kn_ite (Kn_ite (Kn_c rfl (ih _ _ _)) (Kn_ite (Kn_ite (Kn_c rfl (ih _ _ _)) (Kn_no _)) (Kn_no _))) (Kn_no _)
    | 2 =>
      refine Kn_eq (by rw [x_goOnBehind]) ?_
      exact Kn_ite (Kn_ite (Kn_ob (Kn_c rfl (kn_finished _ _ _ _)) (fun _ h541 => Kn_c h541 (ih _ _ _))) (Kn_no _)) (Kn_no _)
    | 3 =>
      refine Kn_eq (by rw [x_goOnBehind]) ?_
      exact Kn_so rfl
    | b + 4 =>
      refine Kn_eq (by rw [x_goOnBehind]) (Kn_no _)
theorem kn_pass : ∀ (k b : Nat) (L : Nat → Int32) (σ : MS), Kn (x_pass k b L σ) (kn σ) := by
  intro k
  induction k with
  | zero => intro b L σ; exact Kn_no _
  | succ k ih =>
    intro b L σ
    match b with
    | 0 =>
      refine Kn_eq (by rw [x_pass]) ?_
      exact Kn_ite (Kn_ob (Kn_c rfl (kn_goOnBehind _ _ _ _)) (fun _ h542 => Kn_c h542 (ih _ _ _))) (Kn_c rfl (ih _ _ _))
    | 1 =>
      refine Kn_eq (by rw [x_pass]) ?_
      exact Kn_so rfl
    | b + 2 =>
      refine Kn_eq (by rw [x_pass]) (Kn_no _)
theorem kn_assignTo : ∀ (k b : Nat) (L : Nat → Int32) (σ : MS), Kn (x_assignTo k b L σ) (kn σ) := by
  intro k
  induction k with
  | zero => intro b L σ; exact Kn_no _
  | succ k ih =>
    intro b L σ
    match b with
    | 0 =>
      refine Kn_eq (by rw [x_assignTo]) ?_
      exact Kn_ite (Kn_ob (Kn_c rfl (kn_workParts _ _ _ _)) (fun _ h543 => Kn_ite (Kn_ite (Kn_ob (Kn_c h543 (kn_eval _ _ _ _)) (fun _ h544 => Kn_c h544 (ih _ _ _))) (Kn_no _)) (Kn_c h543 (ih _ _ _)))) (Kn_no _)
    | 1 =>
      refine Kn_eq (by rw [x_assignTo]) ?_
      exact Kn_ite (Kn_c rfl (ih _ _ _)) (Kn_so rfl)
    | 2 =>
      refine Kn_eq (by rw [x_assignTo]) ?_
      exact Kn_ite (Kn_ite (Kn_ob (Kn_c rfl (kn_readParts _ _ _ _)) (fun _ h545 => Kn_ite (Kn_ob (Kn_c h545 (kn_sweep _ _ _ _)) (fun _ h546 => Kn_ite (Kn_ite (Kn_ite (Kn_ob (Kn_c h546 (kn_operate _ _ _ _)) (fun _ h547 => Kn_ob (Kn_c h547 (kn_answer _ _ _ _)) (fun _ h548 => Kn_ite (Kn_c h548 (ih _ _ _)) (Kn_no _)))) (Kn_no _)) (Kn_no _)) (Kn_no _))) (Kn_c h545 (ih _ _ _)))) (Kn_c rfl (ih _ _ _))) (Kn_no _)
    | 3 =>
      refine Kn_eq (by rw [x_assignTo]) ?_
      exact Kn_c rfl (ih _ _ _)
    | 4 =>
      refine Kn_eq (by rw [x_assignTo]) ?_
      exact Kn_ob (Kn_c rfl (kn_write _ _ _ _)) (fun _ h549 => Kn_ob (Kn_c h549 (kn_pass _ _ _ _)) (fun _ h550 => Kn_so h550))
    | b + 5 =>
      refine Kn_eq (by rw [x_assignTo]) (Kn_no _)
theorem kn_partsTo : ∀ (k b : Nat) (L : Nat → Int32) (σ : MS), Kn (x_partsTo k b L σ) (kn σ) := by
  intro k
  induction k with
  | zero => intro b L σ; exact Kn_no _
  | succ k ih =>
    intro b L σ
    match b with
    | 0 =>
      refine Kn_eq (by rw [x_partsTo]) ?_
      exact Kn_ite (Kn_c rfl (ih _ _ _)) (Kn_no _)
    | 1 =>
      refine Kn_eq (by rw [x_partsTo]) ?_
      exact Kn_ite (Kn_c rfl (ih _ _ _)) (Kn_ite (Kn_ite (Kn_ite (Kn_c rfl (ih _ _ _)) (Kn_ob (Kn_c rfl (kn_workParts _ _ _ _)) (fun _ h551 => Kn_c h551 (ih _ _ _)))) (Kn_no _)) (Kn_c rfl (ih _ _ _)))
    | 2 =>
      refine Kn_eq (by rw [x_partsTo]) ?_
      exact Kn_ite (Kn_c rfl (ih _ _ _)) (Kn_no _)
    | 3 =>
      refine Kn_eq (by rw [x_partsTo]) ?_
      exact Kn_ite (Kn_ite (Kn_ob (Kn_c rfl (kn_eval _ _ _ _)) (fun _ h552 => Kn_c h552 (ih _ _ _))) (Kn_no _)) (Kn_c rfl (ih _ _ _))
    | 4 =>
      refine Kn_eq (by rw [x_partsTo]) ?_
      exact Kn_ite (Kn_c rfl (ih _ _ _)) (Kn_so rfl)
    | 5 =>
      refine Kn_eq (by rw [x_partsTo]) ?_
      exact Kn_ite (Kn_ob (Kn_c rfl (kn_kind _ _ _ _)) (fun _ h553 => Kn_ite (Kn_c h553 (ih _ _ _)) (Kn_ob (Kn_c h553 (kn_fail _ _ _ _)) (fun _ h554 => Kn_so h554)))) (Kn_no _)
    | 6 =>
      refine Kn_eq (by rw [x_partsTo]) ?_
      exact Kn_ite (Kn_c rfl (ih _ _ _)) (Kn_no _)
    | 7 =>
      refine Kn_eq (by rw [x_partsTo]) ?_
      exact Kn_ite (Kn_c rfl (ih _ _ _)) (Kn_ite (Kn_ite (Kn_ite (Kn_c rfl (ih _ _ _)) (Kn_ite (Kn_ite (Kn_ite (Kn_c rfl (ih _ _ _)) (Kn_ite (Kn_c rfl (ih _ _ _)) (Kn_no _))) (Kn_no _)) (Kn_no _))) (Kn_no _)) (Kn_c rfl (ih _ _ _)))
    | 8 =>
      refine Kn_eq (by rw [x_partsTo]) ?_
      exact Kn_c rfl (ih _ _ _)
    | 9 =>
      refine Kn_eq (by rw [x_partsTo]) ?_
      exact Kn_ob (Kn_c rfl (kn_push _ _ _ _)) (fun _ h555 => Kn_ob (Kn_c h555 (kn_write _ _ _ _)) (fun _ h556 => Kn_c h556 (ih _ _ _)))
    | 10 =>
      refine Kn_eq (by rw [x_partsTo]) ?_
      exact Kn_ob (Kn_c rfl (kn_keysIn _ _ _ _)) (fun _ h557 => Kn_c h557 (ih _ _ _))
    | 11 =>
      refine Kn_eq (by rw [x_partsTo]) ?_
      exact Kn_ite (Kn_c rfl (ih _ _ _)) (Kn_no _)
    | 12 =>
      refine Kn_eq (by rw [x_partsTo]) ?_
      exact Kn_ob (Kn_c rfl (kn_pass _ _ _ _)) (fun _ h558 => Kn_so h558)
    | b + 13 =>
      refine Kn_eq (by rw [x_partsTo]) (Kn_no _)
theorem kn_without : ∀ (k b : Nat) (L : Nat → Int32) (σ : MS), Kn (x_without k b L σ) (kn σ) := by
  intro k
  induction k with
  | zero => intro b L σ; exact Kn_no _
  | succ k ih =>
    intro b L σ
    match b with
    | 0 =>
      refine Kn_eq (by rw [x_without]) ?_
      exact Kn_ite (Kn_ite (Kn_ite (Kn_c rfl (ih _ _ _)) (Kn_c rfl (ih _ _ _))) (Kn_no _)) (Kn_no _)
    | 1 =>
      refine Kn_eq (by rw [x_without]) ?_
      exact Kn_ite (Kn_c rfl (ih _ _ _)) (Kn_ite (Kn_ite (Kn_c rfl (ih _ _ _)) (Kn_no _)) (Kn_no _))
    | 2 =>
      refine Kn_eq (by rw [x_without]) ?_
      exact Kn_ite (Kn_c rfl (ih _ _ _)) (Kn_c rfl (ih _ _ _))
    | 3 =>
      refine Kn_eq (by rw [x_without]) ?_
      exact Kn_c rfl (ih _ _ _)
    | 4 =>
      refine Kn_eq (by rw [x_without]) ?_
      exact Kn_c rfl (ih _ _ _)
    | 5 =>
      refine Kn_eq (by rw [x_without]) ?_
      exact Kn_ob (Kn_c rfl (kn_stringOf__51 _ _ _ _)) (fun _ h559 => Kn_so h559)
    | 6 =>
      refine Kn_eq (by rw [x_without]) ?_
      exact Kn_c rfl (ih _ _ _)
    | 7 =>
      refine Kn_eq (by rw [x_without]) ?_
      exact Kn_ite (Kn_c rfl (ih _ _ _)) (Kn_ite (Kn_c rfl (ih _ _ _)) (Kn_ite (Kn_ob (Kn_c rfl (kn_push _ _ _ _)) (fun _ h560 => Kn_c h560 (ih _ _ _))) (Kn_no _)))
    | 8 =>
      refine Kn_eq (by rw [x_without]) ?_
      exact Kn_c rfl (ih _ _ _)
    | 9 =>
      refine Kn_eq (by rw [x_without]) ?_
      exact Kn_ite (Kn_ite (Kn_ob (Kn_c rfl (kn_setOf _ _ _ _)) (fun _ h561 => Kn_c h561 (ih _ _ _))) (Kn_c rfl (ih _ _ _))) (Kn_no _)
    | 10 =>
      refine Kn_eq (by rw [x_without]) ?_
      exact Kn_ob (Kn_c rfl (kn_tupleOf _ _ _ _)) (fun _ h562 => Kn_c h562 (ih _ _ _))
    | 11 =>
      refine Kn_eq (by rw [x_without]) ?_
      exact Kn_so rfl
    | b + 12 =>
      refine Kn_eq (by rw [x_without]) (Kn_no _)
theorem kn_takeFrom : ∀ (k b : Nat) (L : Nat → Int32) (σ : MS), Kn (x_takeFrom k b L σ) (kn σ) := by
  intro k
  induction k with
  | zero => intro b L σ; exact Kn_no _
  | succ k ih =>
    intro b L σ
    match b with
    | 0 =>
      refine Kn_eq (by rw [x_takeFrom]) ?_
      exact Kn_ite (Kn_ite (Kn_ob (Kn_c rfl (kn_workParts _ _ _ _)) (fun _ h563 => Kn_ite (Kn_ob (Kn_c h563 (kn_workParts _ _ _ _)) (fun _ h564 => Kn_c h564 (ih _ _ _))) (Kn_c h563 (ih _ _ _)))) (Kn_no _)) (Kn_no _)
    | 1 =>
      refine Kn_eq (by rw [x_takeFrom]) ?_
      exact Kn_ite (Kn_ob (Kn_c rfl (kn_readParts _ _ _ _)) (fun _ h565 => Kn_c h565 (ih _ _ _))) (Kn_c rfl (ih _ _ _))
    | 2 =>
      refine Kn_eq (by rw [x_takeFrom]) ?_
      exact Kn_ite (Kn_c rfl (ih _ _ _)) (Kn_so rfl)
    | 3 =>
      refine Kn_eq (by rw [x_takeFrom]) ?_
      exact Kn_ob (Kn_c rfl (kn_sweep _ _ _ _)) (fun _ h566 => Kn_ite (Kn_ob (Kn_c h566 (kn_kind _ _ _ _)) (fun _ h567 => Kn_ite (Kn_ite (Kn_ite (Kn_c h567 (ih _ _ _)) (Kn_c h567 (ih _ _ _))) (Kn_c h567 (ih _ _ _))) (Kn_no _))) (Kn_no _))
    | 4 =>
      refine Kn_eq (by rw [x_takeFrom]) ?_
      exact Kn_ite (Kn_c rfl (ih _ _ _)) (Kn_ite (Kn_c rfl (ih _ _ _)) (Kn_c rfl (ih _ _ _)))
    | 5 =>
      refine Kn_eq (by rw [x_takeFrom]) ?_
      exact Kn_ob (Kn_c rfl (kn_fail _ _ _ _)) (fun _ h568 => Kn_so h568)
    | 6 =>
      refine Kn_eq (by rw [x_takeFrom]) ?_
      exact Kn_ite (Kn_ob (Kn_c rfl (kn_push _ _ _ _)) (fun _ h569 => Kn_ite (Kn_c h569 (ih _ _ _)) (Kn_ite (Kn_ite (Kn_c h569 (ih _ _ _)) (Kn_c h569 (ih _ _ _))) (Kn_no _)))) (Kn_no _)
    | 7 =>
      refine Kn_eq (by rw [x_takeFrom]) ?_
      exact Kn_c rfl (ih _ _ _)
    | 8 =>
      refine Kn_eq (by rw [x_takeFrom]) ?_
      exact Kn_ob (Kn_c rfl (kn_memberAt _ _ _ _)) (fun _ h570 => Kn_ite (Kn_c h570 (ih _ _ _)) (Kn_no _))
    | 9 =>
      refine Kn_eq (by rw [x_takeFrom]) ?_
      exact Kn_ob (Kn_c rfl (kn_without _ _ _ _)) (fun _ h571 => Kn_ob (Kn_c h571 (kn_answer _ _ _ _)) (fun _ h572 => Kn_ob (Kn_c h572 (kn_push _ _ _ _)) (fun _ h573 => Kn_ob (Kn_c h573 (kn_write _ _ _ _)) (fun _ h574 => Kn_c h574 (ih _ _ _)))))
    | 10 =>
      refine Kn_eq (by rw [x_takeFrom]) ?_
      exact Kn_ob (Kn_c rfl (kn_write _ _ _ _)) (fun _ h575 => Kn_ob (Kn_c h575 (kn_pass _ _ _ _)) (fun _ h576 => Kn_so h576))
    | b + 11 =>
      refine Kn_eq (by rw [x_takeFrom]) (Kn_no _)
theorem kn_makePoint : ∀ (k b : Nat) (L : Nat → Int32) (σ : MS), Kn (x_makePoint k b L σ) (kn σ) := by
  intro k
  induction k with
  | zero => intro b L σ; exact Kn_no _
  | succ k ih =>
    intro b L σ
    match b with
    | 0 =>
      refine Kn_eq (by rw [x_makePoint]) ?_
      exact Kn_ite (Kn_c rfl (ih _ _ _)) (Kn_ite (Kn_c rfl (ih _ _ _)) (Kn_c rfl (ih _ _ _)))
    | 1 =>
      refine Kn_eq (by rw [x_makePoint]) ?_
      exact Kn_ob (Kn_c rfl (kn_fail _ _ _ _)) (fun _ h577 => Kn_so h577)
    | 2 =>
      refine Kn_eq (by rw [x_makePoint]) ?_
      exact Kn_ite (Kn_c rfl (ih _ _ _)) (Kn_no _)
    | 3 =>
      refine Kn_eq (by rw [x_makePoint]) ?_
      exact Kn_c rfl (ih _ _ _)
    | 4 =>
      refine Kn_eq (by rw [x_makePoint]) ?_
      exact Kn_ite (Kn_c rfl (ih _ _ _)) (Kn_ite (Kn_ite (Kn_c rfl (ih _ _ _)) (Kn_no _)) (Kn_no _))
    | 5 =>
      refine Kn_eq (by rw [x_makePoint]) ?_
      exact Kn_c rfl (ih _ _ _)
    | 6 =>
      refine Kn_eq (by rw [x_makePoint]) ?_
      exact Kn_ite (Kn_c rfl (ih _ _ _)) (Kn_no _)
    | 7 =>
      refine Kn_eq (by rw [x_makePoint]) ?_
      exact Kn_c rfl (ih _ _ _)
    | 8 =>
      refine Kn_eq (by rw [x_makePoint]) ?_
      exact Kn_so rfl
    | b + 9 =>
      refine Kn_eq (by rw [x_makePoint]) (Kn_no _)
theorem kn_enter : ∀ (k b : Nat) (L : Nat → Int32) (σ : MS), Kn (x_enter k b L σ) (kn σ) := by
  intro k
  induction k with
  | zero => intro b L σ; exact Kn_no _
  | succ k ih =>
    intro b L σ
    match b with
    | 0 =>
      refine Kn_eq (by rw [x_enter]) ?_
      exact Kn_ite (Kn_c rfl (ih _ _ _)) (Kn_ite (Kn_c rfl (ih _ _ _)) (Kn_no _))
    | 1 =>
      refine Kn_eq (by rw [x_enter]) ?_
      exact Kn_ob (Kn_c rfl (kn_finished _ _ _ _)) (fun _ h578 => Kn_c h578 (ih _ _ _))
    | 2 =>
      refine Kn_eq (by rw [x_enter]) ?_
      exact Kn_so rfl
    | b + 3 =>
      refine Kn_eq (by rw [x_enter]) (Kn_no _)
theorem kn_beginCall : ∀ (k b : Nat) (L : Nat → Int32) (σ : MS), Kn (x_beginCall k b L σ) (kn σ) := by
  intro k
  induction k with
  | zero => intro b L σ; exact Kn_no _
  | succ k ih =>
    intro b L σ
    match b with
    | 0 =>
      refine Kn_eq (by rw [x_beginCall]) ?_
      exact Kn_ite (Kn_ite (Kn_c rfl (ih _ _ _)) (Kn_no _)) (Kn_no _)
    | 1 =>
      refine Kn_eq (by rw [x_beginCall]) ?_
      exact Kn_ite (Kn_c rfl (ih _ _ _)) (Kn_ite (Kn_ite (Kn_c rfl (ih _ _ _)) (Kn_ob (Kn_c rfl (kn_eval _ _ _ _)) (fun _ h579 => Kn_c h579 (ih _ _ _)))) (Kn_no _))
    | 2 =>
      refine Kn_eq (by rw [x_beginCall]) ?_
      exact Kn_ob (Kn_c rfl (kn_push _ _ _ _)) (fun _ h580 => Kn_c h580 (ih _ _ _))
    | 3 =>
      refine Kn_eq (by rw [x_beginCall]) ?_
      exact Kn_ite (Kn_c rfl (ih _ _ _)) (Kn_no _)
    | 4 =>
      refine Kn_eq (by rw [x_beginCall]) ?_
      exact Kn_ite (Kn_c rfl (ih _ _ _)) (Kn_so rfl)
    | 5 =>
      refine Kn_eq (by rw [x_beginCall]) ?_
      exact Kn_ite (Kn_ite (Kn_ob (Kn_c rfl (kn_fail _ _ _ _)) (fun _ h581 => Kn_so h581)) (Kn_c rfl (ih _ _ _))) (Kn_no _)
    | 6 =>
      refine Kn_eq (by rw [x_beginCall]) ?_
      exact Kn_c rfl (ih _ _ _)
    | 7 =>
      refine Kn_eq (by rw [x_beginCall]) ?_
      exact Kn_ite (Kn_ite (Kn_c rfl (ih _ _ _)) (Kn_ite (Kn_ite (Kn_c rfl (ih _ _ _)) (Kn_ite (Kn_ite (Kn_c rfl (ih _ _ _)) (Kn_ite (Kn_ob (Kn_c rfl (kn_size _ _ _ _)) (fun _ h582 => Kn_c h582 (ih _ _ _))) (Kn_no _))) (Kn_no _))) (Kn_no _))) (Kn_no _)
    | 8 =>
      refine Kn_eq (by rw [x_beginCall]) ?_
      exact Kn_c rfl (ih _ _ _)
    | 9 =>
      refine Kn_eq (by rw [x_beginCall]) ?_
      exact Kn_c rfl (ih _ _ _)
    | 10 =>
      refine Kn_eq (by rw [x_beginCall]) ?_
      exact Kn_c rfl (ih _ _ _)
    | 11 =>
      refine Kn_eq (by rw [x_beginCall]) ?_
      exact Kn_ite (Kn_c rfl (ih _ _ _)) (Kn_ob (Kn_c rfl (kn_fail _ _ _ _)) (fun _ h583 => Kn_so h583))
    | 12 =>
      refine Kn_eq (by rw [x_beginCall]) ?_
      exact Kn_c rfl (ih _ _ _)
    | 13 =>
      refine Kn_eq (by rw [x_beginCall]) ?_
      exact Kn_ite (Kn_ite (Kn_c rfl (ih _ _ _)) (Kn_no _)) (Kn_no _)
    | 14 =>
      refine Kn_eq (by rw [x_beginCall]) ?_
      exact Kn_ite (Kn_c rfl (ih _ _ _)) (Kn_no _)
    | 15 =>
      refine Kn_eq (by rw [x_beginCall]) ?_
      exact Kn_ite (Kn_ite (Kn_c rfl (ih _ _ _)) (Kn_no _)) (Kn_no _)
    | 16 =>
      refine Kn_eq (by rw [x_beginCall]) ?_
      exact Kn_c rfl (ih _ _ _)
    | 17 =>
      refine Kn_eq (by rw [x_beginCall]) ?_
      exact Kn_ite (Kn_c rfl (ih _ _ _)) (Kn_ite (Kn_ite (Kn_c rfl (ih _ _ _)) (Kn_ite (Kn_c rfl (ih _ _ _)) (Kn_no _))) (Kn_no _))
    | 18 =>
      refine Kn_eq (by rw [x_beginCall]) ?_
      exact Kn_c rfl (ih _ _ _)
    | 19 =>
      refine Kn_eq (by rw [x_beginCall]) ?_
      exact Kn_ite (Kn_c rfl (ih _ _ _)) (Kn_no _)
    | 20 =>
      refine Kn_eq (by rw [x_beginCall]) ?_
      exact Kn_c rfl (ih _ _ _)
    | 21 =>
      refine Kn_eq (by rw [x_beginCall]) ?_
      exact Kn_c rfl (ih _ _ _)
    | 22 =>
      refine Kn_eq (by rw [x_beginCall]) ?_
      exact Kn_ite (Kn_ite (Kn_c rfl (ih _ _ _)) (Kn_no _)) (Kn_no _)
    | 23 =>
      refine Kn_eq (by rw [x_beginCall]) ?_
      exact Kn_ite (Kn_ob (Kn_c rfl (kn_enter _ _ _ _)) (fun _ h584 => Kn_so h584)) (Kn_no _)
    | b + 24 =>
      refine Kn_eq (by rw [x_beginCall]) (Kn_no _)
theorem kn_decide : ∀ (k b : Nat) (L : Nat → Int32) (σ : MS), Kn (x_decide k b L σ) (kn σ) := by
  intro k
  induction k with
  | zero => intro b L σ; exact Kn_no _
  | succ k ih =>
    intro b L σ
    match b with
    | 0 =>
      refine Kn_eq (by rw [x_decide]) ?_
      exact Kn_c rfl (ih _ _ _)
    | 1 =>
      refine Kn_eq (by rw [x_decide]) ?_
      exact Kn_ite (Kn_c rfl (ih _ _ _)) (Kn_ite (Kn_ite (Kn_ite (Kn_c rfl (ih _ _ _)) (Kn_c rfl (ih _ _ _))) (Kn_no _)) (Kn_c rfl (ih _ _ _)))
    | 2 =>
      refine Kn_eq (by rw [x_decide]) ?_
      exact Kn_c rfl (ih _ _ _)
    | 3 =>
      refine Kn_eq (by rw [x_decide]) ?_
      exact Kn_ite (Kn_ite (Kn_ob (Kn_c rfl (kn_makePoint _ _ _ _)) (fun _ h585 => Kn_c h585 (ih _ _ _))) (Kn_c rfl (ih _ _ _))) (Kn_no _)
    | 4 =>
      refine Kn_eq (by rw [x_decide]) ?_
      exact Kn_ite (Kn_ite (Kn_ob (Kn_c rfl (kn_holds _ _ _ _)) (fun _ h586 => Kn_c h586 (ih _ _ _))) (Kn_no _)) (Kn_c rfl (ih _ _ _))
    | 5 =>
      refine Kn_eq (by rw [x_decide]) ?_
      exact Kn_ite (Kn_c rfl (ih _ _ _)) (Kn_so rfl)
    | 6 =>
      refine Kn_eq (by rw [x_decide]) ?_
      exact Kn_ite (Kn_c rfl (ih _ _ _)) (Kn_ite (Kn_ob (Kn_c rfl (kn_enter _ _ _ _)) (fun _ h587 => Kn_so h587)) (Kn_no _))
    | 7 =>
      refine Kn_eq (by rw [x_decide]) ?_
      exact Kn_ite (Kn_c rfl (ih _ _ _)) (Kn_no _)
    | 8 =>
      refine Kn_eq (by rw [x_decide]) ?_
      exact Kn_ob (Kn_c rfl (kn_pass _ _ _ _)) (fun _ h588 => Kn_so h588)
    | b + 9 =>
      refine Kn_eq (by rw [x_decide]) (Kn_no _)
theorem kn_testAgain : ∀ (k b : Nat) (L : Nat → Int32) (σ : MS), Kn (x_testAgain k b L σ) (kn σ) := by
  intro k
  induction k with
  | zero => intro b L σ; exact Kn_no _
  | succ k ih =>
    intro b L σ
    match b with
    | 0 =>
      refine Kn_eq (by rw [x_testAgain]) ?_
      exact Kn_ite (Kn_ob (Kn_c rfl (kn_holds _ _ _ _)) (fun _ h589 => Kn_ite (Kn_c h589 (ih _ _ _)) (Kn_so h589))) (Kn_no _)
    | 1 =>
      refine Kn_eq (by rw [x_testAgain]) ?_
      exact Kn_ite (Kn_c rfl (ih _ _ _)) (Kn_ite (Kn_ob (Kn_c rfl (kn_enter _ _ _ _)) (fun _ h590 => Kn_c h590 (ih _ _ _))) (Kn_no _))
    | 2 =>
      refine Kn_eq (by rw [x_testAgain]) ?_
      exact Kn_ob (Kn_c rfl (kn_goOnBehind _ _ _ _)) (fun _ h591 => Kn_c h591 (ih _ _ _))
    | 3 =>
      refine Kn_eq (by rw [x_testAgain]) ?_
      exact Kn_so rfl
    | b + 4 =>
      refine Kn_eq (by rw [x_testAgain]) (Kn_no _)
theorem kn_beginFor : ∀ (k b : Nat) (L : Nat → Int32) (σ : MS), Kn (x_beginFor k b L σ) (kn σ) := by
  intro k
  induction k with
  | zero => intro b L σ; exact Kn_no _
  | succ k ih =>
    intro b L σ
    match b with
    | 0 =>
      refine Kn_eq (by rw [x_beginFor]) ?_
      exact Kn_ite (Kn_ite (Kn_c rfl (ih _ _ _)) (Kn_no _)) (Kn_no _)
    | 1 =>
      refine Kn_eq (by rw [x_beginFor]) ?_
      exact Kn_ite (Kn_ite (Kn_c rfl (ih _ _ _)) (Kn_no _)) (Kn_no _)
    | 2 =>
      refine Kn_eq (by rw [x_beginFor]) ?_
      exact Kn_ite (Kn_ite (Kn_c rfl (ih _ _ _)) (Kn_no _)) (Kn_no _)
    | 3 =>
      refine Kn_eq (by rw [x_beginFor]) ?_
      exact Kn_ob (Kn_c rfl (kn_seek _ _ _ _)) (fun _ h592 => Kn_ob (Kn_c h592 (kn_goOnBehind _ _ _ _)) (fun _ h593 => Kn_so h593))
    | b + 4 =>
      refine Kn_eq (by rw [x_beginFor]) (Kn_no _)
theorem kn_loopOf : ∀ (k b : Nat) (L : Nat → Int32) (σ : MS), Kn (x_loopOf k b L σ) (kn σ) := by
  intro k
  induction k with
  | zero => intro b L σ; exact Kn_no _
  | succ k ih =>
    intro b L σ
    match b with
    | 0 =>
      refine Kn_eq (by rw [x_loopOf]) ?_
      exact Kn_ite (Kn_ite (Kn_c rfl (ih _ _ _)) (Kn_no _)) (Kn_no _)
    | 1 =>
      refine Kn_eq (by rw [x_loopOf]) ?_
      exact Kn_ite (Kn_ite (Kn_c rfl (ih _ _ _)) (Kn_ite (Kn_ite (Kn_c rfl (ih _ _ _)) (Kn_ite (Kn_ite (Kn_c rfl (ih _ _ _)) (Kn_no _)) (Kn_no _))) (Kn_no _))) (Kn_no _)
    | 2 =>
      refine Kn_eq (by rw [x_loopOf]) ?_
      exact Kn_so rfl
    | b + 3 =>
      refine Kn_eq (by rw [x_loopOf]) (Kn_no _)
theorem kn_leave : ∀ (k b : Nat) (L : Nat → Int32) (σ : MS), Kn (x_leave k b L σ) (kn σ) := by
  intro k
  induction k with
  | zero => intro b L σ; exact Kn_no _
  | succ k ih =>
    intro b L σ
    match b with
    | 0 =>
      refine Kn_eq (by rw [x_leave]) ?_
      exact Kn_ob (Kn_c rfl (kn_loopOf _ _ _ _)) (fun _ h594 => Kn_ite (Kn_ite (Kn_c h594 (ih _ _ _)) (Kn_c h594 (ih _ _ _))) (Kn_no _))
    | 1 =>
      refine Kn_eq (by rw [x_leave]) ?_
      exact Kn_c rfl (ih _ _ _)
    | 2 =>
      refine Kn_eq (by rw [x_leave]) ?_
      exact Kn_ite (Kn_ite (Kn_ite (Kn_c rfl (ih _ _ _)) (Kn_ob (Kn_c rfl (kn_closeFor _ _ _ _)) (fun _ h595 => Kn_c h595 (ih _ _ _)))) (Kn_c rfl (ih _ _ _))) (Kn_no _)
    | 3 =>
      refine Kn_eq (by rw [x_leave]) ?_
      exact Kn_ite (Kn_c rfl (ih _ _ _)) (Kn_c rfl (ih _ _ _))
    | 4 =>
      refine Kn_eq (by rw [x_leave]) ?_
      exact Kn_ob (Kn_c rfl (kn_seek _ _ _ _)) (fun _ h596 => Kn_c h596 (ih _ _ _))
    | 5 =>
      refine Kn_eq (by rw [x_leave]) ?_
      exact Kn_ob (Kn_c rfl (kn_goOnBehind _ _ _ _)) (fun _ h597 => Kn_c h597 (ih _ _ _))
    | 6 =>
      refine Kn_eq (by rw [x_leave]) ?_
      exact Kn_ite (Kn_c rfl (ih _ _ _)) (Kn_ob (Kn_c rfl (kn_goOnBehind _ _ _ _)) (fun _ h598 => Kn_c h598 (ih _ _ _)))
    | 7 =>
      refine Kn_eq (by rw [x_leave]) ?_
      exact Kn_ite (Kn_c rfl (ih _ _ _)) (Kn_no _)
    | 8 =>
      refine Kn_eq (by rw [x_leave]) ?_
      exact Kn_so rfl
    | b + 9 =>
      refine Kn_eq (by rw [x_leave]) (Kn_no _)
theorem kn_returns : ∀ (k b : Nat) (L : Nat → Int32) (σ : MS), Kn (x_returns k b L σ) (kn σ) := by
  intro k
  induction k with
  | zero => intro b L σ; exact Kn_no _
  | succ k ih =>
    intro b L σ
    match b with
    | 0 =>
      refine Kn_eq (by rw [x_returns]) ?_
      exact Kn_ite (Kn_ite (Kn_c rfl (ih _ _ _)) (Kn_ite (Kn_ob (Kn_c rfl (kn_eval _ _ _ _)) (fun _ h599 => Kn_ite (Kn_c h599 (ih _ _ _)) (Kn_c h599 (ih _ _ _)))) (Kn_no _))) (Kn_no _)
    | 1 =>
      refine Kn_eq (by rw [x_returns]) ?_
      exact Kn_ob (Kn_c rfl (kn_pop _ _ _ _)) (fun _ h600 => Kn_c h600 (ih _ _ _))
    | 2 =>
      refine Kn_eq (by rw [x_returns]) ?_
      exact Kn_c rfl (ih _ _ _)
    | 3 =>
      refine Kn_eq (by rw [x_returns]) ?_
      exact Kn_ite (Kn_ob (Kn_c rfl (kn_giveBack _ _ _ _)) (fun _ h601 => Kn_ob (Kn_c h601 (kn_goOnBehind _ _ _ _)) (fun _ h602 => Kn_c h602 (ih _ _ _)))) (Kn_c rfl (ih _ _ _))
    | 4 =>
      refine Kn_eq (by rw [x_returns]) ?_
      exact Kn_so rfl
    | b + 5 =>
      refine Kn_eq (by rw [x_returns]) (Kn_no _)
theorem kn_putOut : ∀ (k b : Nat) (L : Nat → Int32) (σ : MS), Kn (x_putOut k b L σ) (kn σ) := by
  intro k
  induction k with
  | zero => intro b L σ; exact Kn_no _
  | succ k ih =>
    intro b L σ
    match b with
    | 0 =>
      refine Kn_eq (by rw [x_putOut]) ?_
      exact Kn_ite (Kn_c rfl (ih _ _ _)) (Kn_ite (Kn_c rfl (ih _ _ _)) (Kn_no _))
    | 1 =>
      refine Kn_eq (by rw [x_putOut]) ?_
      exact Kn_ite (Kn_c rfl (ih _ _ _)) (Kn_c rfl (ih _ _ _))
    | 2 =>
      refine Kn_eq (by rw [x_putOut]) ?_
      exact Kn_c rfl (ih _ _ _)
    | 3 =>
      refine Kn_eq (by rw [x_putOut]) ?_
      exact Kn_so rfl
    | b + 4 =>
      refine Kn_eq (by rw [x_putOut]) (Kn_no _)
theorem kn_prints : ∀ (k b : Nat) (L : Nat → Int32) (σ : MS), Kn (x_prints k b L σ) (kn σ) := by
  intro k
  induction k with
  | zero => intro b L σ; exact Kn_no _
  | succ k ih =>
    intro b L σ
    match b with
    | 0 =>
      refine Kn_eq (by rw [x_prints]) ?_
      exact Kn_ite (Kn_c rfl (ih _ _ _)) (Kn_no _)
    | 1 =>
      refine Kn_eq (by rw [x_prints]) ?_
      exact Kn_ite (Kn_c rfl (ih _ _ _)) (Kn_ite (Kn_ob (Kn_c rfl (kn_eval _ _ _ _)) (fun _ h603 => Kn_ite (Kn_c h603 (ih _ _ _)) (Kn_no _))) (Kn_c rfl (ih _ _ _)))
    | 2 =>
      refine Kn_eq (by rw [x_prints]) ?_
      exact Kn_ite (Kn_c rfl (ih _ _ _)) (Kn_so rfl)
    | 3 =>
      refine Kn_eq (by rw [x_prints]) ?_
      exact Kn_c rfl (ih _ _ _)
    | 4 =>
      refine Kn_eq (by rw [x_prints]) ?_
      exact Kn_ite (Kn_c rfl (ih _ _ _)) (Kn_c rfl (ih _ _ _))
    | 5 =>
      refine Kn_eq (by rw [x_prints]) ?_
      exact Kn_ite (Kn_ob (Kn_c rfl (kn_print _ _ _ _)) (fun _ h604 => Kn_c h604 (ih _ _ _))) (Kn_no _)
    | 6 =>
      refine Kn_eq (by rw [x_prints]) ?_
      exact Kn_ite (Kn_c rfl (ih _ _ _)) (Kn_ite (Kn_ob (Kn_c rfl (kn_putOut _ _ _ _)) (fun _ h605 => Kn_c h605 (ih _ _ _))) (Kn_no _))
    | 7 =>
      refine Kn_eq (by rw [x_prints]) ?_
      exact Kn_ite (Kn_c rfl (ih _ _ _)) (Kn_c rfl (ih _ _ _))
    | 8 =>
      refine Kn_eq (by rw [x_prints]) ?_
      exact Kn_c rfl (ih _ _ _)
    | 9 =>
      refine Kn_eq (by rw [x_prints]) ?_
      exact Kn_ob (Kn_c rfl (kn_putOut _ _ _ _)) (fun _ h606 => Kn_c h606 (ih _ _ _))
    | 10 =>
      refine Kn_eq (by rw [x_prints]) ?_
      exact Kn_ob (Kn_c rfl (kn_pass _ _ _ _)) (fun _ h607 => Kn_so h607)
    | b + 11 =>
      refine Kn_eq (by rw [x_prints]) (Kn_no _)
theorem kn_succeed : ∀ (k b : Nat) (L : Nat → Int32) (σ : MS), Kn (x_succeed k b L σ) (kn σ) := by
  intro k
  induction k with
  | zero => intro b L σ; exact Kn_no _
  | succ k ih =>
    intro b L σ
    match b with
    | 0 =>
      refine Kn_eq (by rw [x_succeed]) ?_
      exact Kn_ite (Kn_ob (Kn_c rfl (kn_fail _ _ _ _)) (fun _ h608 => Kn_so h608)) (Kn_c rfl (ih _ _ _))
    | 1 =>
      refine Kn_eq (by rw [x_succeed]) ?_
      exact Kn_c rfl (ih _ _ _)
    | 2 =>
      refine Kn_eq (by rw [x_succeed]) ?_
      exact Kn_ite (Kn_c rfl (ih _ _ _)) (Kn_no _)
    | 3 =>
      refine Kn_eq (by rw [x_succeed]) ?_
      exact Kn_ob (Kn_c rfl (kn_pass _ _ _ _)) (fun _ h609 => Kn_so h609)
    | b + 4 =>
      refine Kn_eq (by rw [x_succeed]) (Kn_no _)
theorem kn_backTrack : ∀ (k b : Nat) (L : Nat → Int32) (σ : MS), Kn (x_backTrack k b L σ) (kn σ) := by
  intro k
  induction k with
  | zero => intro b L σ; exact Kn_no _
  | succ k ih =>
    intro b L σ
    match b with
    | 0 =>
      refine Kn_eq (by rw [x_backTrack]) ?_
      exact Kn_ite (Kn_ob (Kn_c rfl (kn_fail _ _ _ _)) (fun _ h610 => Kn_so h610)) (Kn_c rfl (ih _ _ _))
    | 1 =>
      refine Kn_eq (by rw [x_backTrack]) ?_
      exact Kn_c rfl (ih _ _ _)
    | 2 =>
      refine Kn_eq (by rw [x_backTrack]) ?_
      exact Kn_ite (Kn_c rfl (ih _ _ _)) (Kn_no _)
    | 3 =>
      refine Kn_eq (by rw [x_backTrack]) ?_
      exact Kn_c rfl (ih _ _ _)
    | 4 =>
      refine Kn_eq (by rw [x_backTrack]) ?_
      exact Kn_ite (Kn_c rfl (ih _ _ _)) (Kn_ite (Kn_ite (Kn_c rfl (ih _ _ _)) (Kn_no _)) (Kn_no _))
    | 5 =>
      refine Kn_eq (by rw [x_backTrack]) ?_
      exact Kn_c rfl (ih _ _ _)
    | 6 =>
      refine Kn_eq (by rw [x_backTrack]) ?_
      exact Kn_ite (Kn_c rfl (ih _ _ _)) (Kn_no _)
    | 7 =>
      refine Kn_eq (by rw [x_backTrack]) ?_
      exact Kn_ite (Kn_ite (Kn_ite (Kn_ite (Kn_ob (Kn_c rfl (kn_assign _ _ _ _)) (fun _ h611 => Kn_ob (Kn_c h611 (kn_pass _ _ _ _)) (fun _ h612 => Kn_c h612 (ih _ _ _)))) (Kn_no _)) (Kn_c rfl (ih _ _ _))) (Kn_no _)) (Kn_no _)
    | 8 =>
      refine Kn_eq (by rw [x_backTrack]) ?_
      exact Kn_ite (Kn_ite (Kn_ob (Kn_c rfl (kn_decide _ _ _ _)) (fun _ h613 => Kn_c h613 (ih _ _ _))) (Kn_no _)) (Kn_no _)
    | 9 =>
      refine Kn_eq (by rw [x_backTrack]) ?_
      exact Kn_so rfl
    | b + 10 =>
      refine Kn_eq (by rw [x_backTrack]) (Kn_no _)
theorem kn_forget : ∀ (k b : Nat) (L : Nat → Int32) (σ : MS), Kn (x_forget k b L σ) (kn σ) := by
  intro k
  induction k with
  | zero => intro b L σ; exact Kn_no _
  | succ k ih =>
    intro b L σ
    match b with
    | 0 =>
      refine Kn_eq (by rw [x_forget]) ?_
      exact Kn_c rfl (ih _ _ _)
    | 1 =>
      refine Kn_eq (by rw [x_forget]) ?_
      exact Kn_ite (Kn_c rfl (ih _ _ _)) (Kn_ite (Kn_c rfl (ih _ _ _)) (Kn_no _))
    | 2 =>
      refine Kn_eq (by rw [x_forget]) ?_
      exact Kn_c rfl (ih _ _ _)
    | 3 =>
      refine Kn_eq (by rw [x_forget]) ?_
      exact Kn_c rfl (ih _ _ _)
    | 4 =>
      refine Kn_eq (by rw [x_forget]) ?_
      exact Kn_ite (Kn_c rfl (ih _ _ _)) (Kn_ite (Kn_ite (Kn_c rfl (ih _ _ _)) (Kn_ite (Kn_c rfl (ih _ _ _)) (Kn_no _))) (Kn_no _))
    | 5 =>
      refine Kn_eq (by rw [x_forget]) ?_
      exact Kn_c rfl (ih _ _ _)
    | 6 =>
      refine Kn_eq (by rw [x_forget]) ?_
      exact Kn_ite (Kn_c rfl (ih _ _ _)) (Kn_no _)
    | 7 =>
      refine Kn_eq (by rw [x_forget]) ?_
      exact Kn_c rfl (ih _ _ _)
    | 8 =>
      refine Kn_eq (by rw [x_forget]) ?_
      exact Kn_c rfl (ih _ _ _)
    | 9 =>
      refine Kn_eq (by rw [x_forget]) ?_
      exact Kn_ite (Kn_ite (Kn_c rfl (ih _ _ _)) (Kn_ite (Kn_c rfl (ih _ _ _)) (Kn_no _))) (Kn_no _)
    | 10 =>
      refine Kn_eq (by rw [x_forget]) ?_
      exact Kn_ite (Kn_c rfl (ih _ _ _)) (Kn_ite (Kn_ite (Kn_c rfl (ih _ _ _)) (Kn_ite (Kn_c rfl (ih _ _ _)) (Kn_no _))) (Kn_no _))
    | 11 =>
      refine Kn_eq (by rw [x_forget]) ?_
      exact Kn_c rfl (ih _ _ _)
    | 12 =>
      refine Kn_eq (by rw [x_forget]) ?_
      exact Kn_ite (Kn_c rfl (ih _ _ _)) (Kn_no _)
    | 13 =>
      refine Kn_eq (by rw [x_forget]) ?_
      exact Kn_c rfl (ih _ _ _)
    | 14 =>
      refine Kn_eq (by rw [x_forget]) ?_
      exact Kn_c rfl (ih _ _ _)
    | 15 =>
      refine Kn_eq (by rw [x_forget]) ?_
      exact Kn_so rfl
    | b + 16 =>
      refine Kn_eq (by rw [x_forget]) (Kn_no _)
theorem kn_begin : ∀ (k b : Nat) (L : Nat → Int32) (σ : MS), Kn (x_begin k b L σ) (kn σ) := by
  intro k
  induction k with
  | zero => intro b L σ; exact Kn_no _
  | succ k ih =>
    intro b L σ
    match b with
    | 0 =>
      refine Kn_eq (by rw [x_begin]) ?_
      exact Kn_c rfl (ih _ _ _)
    | 1 =>
      refine Kn_eq (by rw [x_begin]) ?_
      exact Kn_ite (Kn_ite (Kn_c rfl (ih _ _ _)) (Kn_no _)) (Kn_no _)
    | 2 =>
      refine Kn_eq (by rw [x_begin]) ?_
      exact Kn_c rfl (ih _ _ _)
    | 3 =>
      refine Kn_eq (by rw [x_begin]) ?_
      exact Kn_c rfl (ih _ _ _)
    | 4 =>
      refine Kn_eq (by rw [x_begin]) ?_
      exact Kn_c rfl (ih _ _ _)
    | 5 =>
      refine Kn_eq (by rw [x_begin]) ?_
      exact Kn_c rfl (ih _ _ _)
    | 6 =>
      refine Kn_eq (by rw [x_begin]) ?_
      exact Kn_c rfl (ih _ _ _)
    | 7 =>
      refine Kn_eq (by rw [x_begin]) ?_
      exact Kn_c rfl (ih _ _ _)
    | 8 =>
      refine Kn_eq (by rw [x_begin]) ?_
      exact Kn_c rfl (ih _ _ _)
    | 9 =>
      refine Kn_eq (by rw [x_begin]) ?_
      exact Kn_ob (Kn_c rfl (kn_sweep _ _ _ _)) (fun _ h614 => Kn_ite (Kn_ite (Kn_c h614 (ih _ _ _)) (Kn_ite (Kn_c h614 (ih _ _ _)) (Kn_ite (Kn_c h614 (ih _ _ _)) (Kn_ite (Kn_c h614 (ih _ _ _)) (Kn_ite (Kn_c h614 (ih _ _ _)) (Kn_ite (Kn_c h614 (ih _ _ _)) (Kn_ite (Kn_c h614 (ih _ _ _)) (Kn_ite (Kn_c h614 (ih _ _ _)) (Kn_ite (Kn_c h614 (ih _ _ _)) (Kn_ite (Kn_c h614 (ih _ _ _)) (Kn_ite (Kn_c h614 (ih _ _ _)) (Kn_ite (Kn_c h614 (ih _ _ _)) (Kn_ite (Kn_c h614 (ih _ _ _)) (Kn_ite (Kn_c h614 (ih _ _ _)) (Kn_ite (Kn_c h614 (ih _ _ _)) (Kn_ite (Kn_c h614 (ih _ _ _)) (Kn_c h614 (ih _ _ _)))))))))))))))))) (Kn_no _))
    | 10 =>
      refine Kn_eq (by rw [x_begin]) ?_
      exact Kn_ob (Kn_c rfl (kn_assignTo _ _ _ _)) (fun _ h615 => Kn_c h615 (ih _ _ _))
    | 11 =>
      refine Kn_eq (by rw [x_begin]) ?_
      exact Kn_ob (Kn_c rfl (kn_partsTo _ _ _ _)) (fun _ h616 => Kn_c h616 (ih _ _ _))
    | 12 =>
      refine Kn_eq (by rw [x_begin]) ?_
      exact Kn_ob (Kn_c rfl (kn_takeFrom _ _ _ _)) (fun _ h617 => Kn_c h617 (ih _ _ _))
    | 13 =>
      refine Kn_eq (by rw [x_begin]) ?_
      exact Kn_ob (Kn_c rfl (kn_makePoint _ _ _ _)) (fun _ h618 => Kn_ite (Kn_ob (Kn_c h618 (kn_assign _ _ _ _)) (fun _ h619 => Kn_ob (Kn_c h619 (kn_pass _ _ _ _)) (fun _ h620 => Kn_c h620 (ih _ _ _)))) (Kn_no _))
    | 14 =>
      refine Kn_eq (by rw [x_begin]) ?_
      exact Kn_ob (Kn_c rfl (kn_beginCall _ _ _ _)) (fun _ h621 => Kn_c h621 (ih _ _ _))
    | 15 =>
      refine Kn_eq (by rw [x_begin]) ?_
      exact Kn_ite (Kn_ob (Kn_c rfl (kn_decide _ _ _ _)) (fun _ h622 => Kn_c h622 (ih _ _ _))) (Kn_no _)
    | 16 =>
      refine Kn_eq (by rw [x_begin]) ?_
      exact Kn_ob (Kn_c rfl (kn_testAgain _ _ _ _)) (fun _ h623 => Kn_c h623 (ih _ _ _))
    | 17 =>
      refine Kn_eq (by rw [x_begin]) ?_
      exact Kn_ob (Kn_c rfl (kn_beginFor _ _ _ _)) (fun _ h624 => Kn_c h624 (ih _ _ _))
    | 18 =>
      refine Kn_eq (by rw [x_begin]) ?_
      exact Kn_ob (Kn_c rfl (kn_leave _ _ _ _)) (fun _ h625 => Kn_c h625 (ih _ _ _))
    | 19 =>
      refine Kn_eq (by rw [x_begin]) ?_
      exact Kn_ob (Kn_c rfl (kn_returns _ _ _ _)) (fun _ h626 => Kn_c h626 (ih _ _ _))
    | 20 =>
      refine Kn_eq (by rw [x_begin]) ?_
      exact Kn_ob (Kn_c rfl (kn_prints _ _ _ _)) (fun _ h627 => Kn_c h627 (ih _ _ _))
    | 21 =>
      refine Kn_eq (by rw [x_begin]) ?_
      exact Kn_ite (Kn_ob (Kn_c rfl (kn_holds _ _ _ _)) (fun _ h628 => Kn_ite (Kn_ob (Kn_c h628 (kn_fail _ _ _ _)) (fun _ h629 => Kn_c h629 (ih _ _ _))) (Kn_c h628 (ih _ _ _)))) (Kn_no _)
    | 22 =>
      refine Kn_eq (by rw [x_begin]) ?_
      exact Kn_ob (Kn_c rfl (kn_pass _ _ _ _)) (fun _ h630 => Kn_c h630 (ih _ _ _))
    | 23 =>
      refine Kn_eq (by rw [x_begin]) ?_
      exact Kn_c rfl (ih _ _ _)
    | 24 =>
      refine Kn_eq (by rw [x_begin]) ?_
      exact Kn_ob (Kn_c rfl (kn_succeed _ _ _ _)) (fun _ h631 => Kn_c h631 (ih _ _ _))
    | 25 =>
      refine Kn_eq (by rw [x_begin]) ?_
      exact Kn_ob (Kn_c rfl (kn_backTrack _ _ _ _)) (fun _ h632 => Kn_c h632 (ih _ _ _))
    | 26 =>
      refine Kn_eq (by rw [x_begin]) ?_
      exact Kn_c rfl (ih _ _ _)
    | 27 =>
      refine Kn_eq (by rw [x_begin]) ?_
      exact Kn_ite (Kn_c rfl (ih _ _ _)) (Kn_c rfl (ih _ _ _))
    | 28 =>
      refine Kn_eq (by rw [x_begin]) ?_
      exact Kn_c rfl (ih _ _ _)
    | 29 =>
      refine Kn_eq (by rw [x_begin]) ?_
      exact Kn_ob (Kn_c rfl (kn_forget _ _ _ _)) (fun _ h633 => Kn_c h633 (ih _ _ _))
    | 30 =>
      refine Kn_eq (by rw [x_begin]) ?_
      exact Kn_so rfl
    | b + 31 =>
      refine Kn_eq (by rw [x_begin]) (Kn_no _)
theorem kn_reset : ∀ (k b : Nat) (L : Nat → Int32) (σ : MS), Kn (x_reset k b L σ) (kn σ) := by
  intro k
  induction k with
  | zero => intro b L σ; exact Kn_no _
  | succ k ih =>
    intro b L σ
    match b with
    | 0 =>
      refine Kn_eq (by rw [x_reset]) ?_
      exact Kn_c rfl (ih _ _ _)
    | 1 =>
      refine Kn_eq (by rw [x_reset]) ?_
      exact Kn_c rfl (ih _ _ _)
    | 2 =>
      refine Kn_eq (by rw [x_reset]) ?_
      exact Kn_c rfl (ih _ _ _)
    | 3 =>
      refine Kn_eq (by rw [x_reset]) ?_
      exact Kn_c rfl (ih _ _ _)
    | 4 =>
      refine Kn_eq (by rw [x_reset]) ?_
      exact Kn_c rfl (ih _ _ _)
    | 5 =>
      refine Kn_eq (by rw [x_reset]) ?_
      exact Kn_c rfl (ih _ _ _)
    | 6 =>
      refine Kn_eq (by rw [x_reset]) ?_
      exact Kn_c rfl (ih _ _ _)
    | 7 =>
      refine Kn_eq (by rw [x_reset]) ?_
      exact Kn_c rfl (ih _ _ _)
    | 8 =>
      refine Kn_eq (by rw [x_reset]) ?_
      exact Kn_c rfl (ih _ _ _)
    | 9 =>
      refine Kn_eq (by rw [x_reset]) ?_
      exact Kn_c rfl (ih _ _ _)
    | 10 =>
      refine Kn_eq (by rw [x_reset]) ?_
      exact Kn_c rfl (ih _ _ _)
    | 11 =>
      refine Kn_eq (by rw [x_reset]) ?_
      exact Kn_c rfl (ih _ _ _)
    | 12 =>
      refine Kn_eq (by rw [x_reset]) ?_
      exact Kn_ite (Kn_c rfl (ih _ _ _)) (Kn_no _)
    | 13 =>
      refine Kn_eq (by rw [x_reset]) ?_
      exact Kn_ite (Kn_c rfl (ih _ _ _)) (Kn_no _)
    | 14 =>
      refine Kn_eq (by rw [x_reset]) ?_
      exact Kn_ite (Kn_c rfl (ih _ _ _)) (Kn_no _)
    | 15 =>
      refine Kn_eq (by rw [x_reset]) ?_
      exact Kn_c rfl (ih _ _ _)
    | 16 =>
      refine Kn_eq (by rw [x_reset]) ?_
      exact Kn_ite (Kn_c rfl (ih _ _ _)) (Kn_ite (Kn_c rfl (ih _ _ _)) (Kn_no _))
    | 17 =>
      refine Kn_eq (by rw [x_reset]) ?_
      exact Kn_ite (Kn_ite (Kn_c rfl (ih _ _ _)) (Kn_ite (Kn_ite (Kn_c rfl (ih _ _ _)) (Kn_c rfl (ih _ _ _))) (Kn_no _))) (Kn_no _)
    | 18 =>
      refine Kn_eq (by rw [x_reset]) ?_
      exact Kn_c rfl (ih _ _ _)
    | 19 =>
      refine Kn_eq (by rw [x_reset]) ?_
      exact Kn_c rfl (ih _ _ _)
    | 20 =>
      refine Kn_eq (by rw [x_reset]) ?_
      exact Kn_c rfl (ih _ _ _)
    | 21 =>
      refine Kn_eq (by rw [x_reset]) ?_
      exact Kn_ob (Kn_c rfl (kn_enter _ _ _ _)) (fun _ h634 => Kn_so h634)
    | b + 22 =>
      refine Kn_eq (by rw [x_reset]) (Kn_no _)
theorem kn_good : ∀ (k b : Nat) (L : Nat → Int32) (σ : MS), Kn (x_good k b L σ) (kn σ) := by
  intro k
  induction k with
  | zero => intro b L σ; exact Kn_no _
  | succ k ih =>
    intro b L σ
    match b with
    | 0 =>
      refine Kn_eq (by rw [x_good]) ?_
      exact Kn_c rfl (ih _ _ _)
    | 1 =>
      refine Kn_eq (by rw [x_good]) ?_
      exact Kn_ite (Kn_c rfl (ih _ _ _)) (Kn_c rfl (ih _ _ _))
    | 2 =>
      refine Kn_eq (by rw [x_good]) ?_
      exact Kn_c rfl (ih _ _ _)
    | 3 =>
      refine Kn_eq (by rw [x_good]) ?_
      exact Kn_ite (Kn_so rfl) (Kn_no _)
    | b + 4 =>
      refine Kn_eq (by rw [x_good]) (Kn_no _)
theorem kn_step : ∀ (k b : Nat) (L : Nat → Int32) (σ : MS), Kn (x_step k b L σ) (kn σ) := by
  intro k
  induction k with
  | zero => intro b L σ; exact Kn_no _
  | succ k ih =>
    intro b L σ
    match b with
    | 0 =>
      refine Kn_eq (by rw [x_step]) ?_
      exact Kn_ite (Kn_c rfl (ih _ _ _)) (Kn_c rfl (ih _ _ _))
    | 1 =>
      refine Kn_eq (by rw [x_step]) ?_
      exact Kn_ite (Kn_c rfl (ih _ _ _)) (Kn_ite (Kn_c rfl (ih _ _ _)) (Kn_c rfl (ih _ _ _)))
    | 2 =>
      refine Kn_eq (by rw [x_step]) ?_
      exact Kn_c rfl (ih _ _ _)
    | 3 =>
      refine Kn_eq (by rw [x_step]) ?_
      exact Kn_c rfl (ih _ _ _)
    | 4 =>
      refine Kn_eq (by rw [x_step]) ?_
      exact Kn_ob (Kn_c rfl (kn_good _ _ _ _)) (fun _ h635 => Kn_ite (Kn_so h635) (Kn_c h635 (ih _ _ _)))
    | 5 =>
      refine Kn_eq (by rw [x_step]) ?_
      exact Kn_c rfl (ih _ _ _)
    | 6 =>
      refine Kn_eq (by rw [x_step]) ?_
      exact Kn_ite (Kn_c rfl (ih _ _ _)) (Kn_ite (Kn_ite (Kn_ob (Kn_c rfl (kn_begin _ _ _ _)) (fun _ h636 => Kn_c h636 (ih _ _ _))) (Kn_no _)) (Kn_c rfl (ih _ _ _)))
    | 7 =>
      refine Kn_eq (by rw [x_step]) ?_
      exact Kn_ite (Kn_c rfl (ih _ _ _)) (Kn_c rfl (ih _ _ _))
    | 8 =>
      refine Kn_eq (by rw [x_step]) ?_
      exact Kn_ite (Kn_c rfl (ih _ _ _)) (Kn_c rfl (ih _ _ _))
    | 9 =>
      refine Kn_eq (by rw [x_step]) ?_
      exact Kn_c rfl (ih _ _ _)
    | 10 =>
      refine Kn_eq (by rw [x_step]) ?_
      exact Kn_so rfl
    | b + 11 =>
      refine Kn_eq (by rw [x_step]) (Kn_no _)
theorem kn_back : ∀ (k b : Nat) (L : Nat → Int32) (σ : MS), Kn (x_back k b L σ) (kn σ) := by
  intro k
  induction k with
  | zero => intro b L σ; exact Kn_no _
  | succ k ih =>
    intro b L σ
    match b with
    | 0 =>
      refine Kn_eq (by rw [x_back]) ?_
      exact Kn_ite (Kn_c rfl (ih _ _ _)) (Kn_c rfl (ih _ _ _))
    | 1 =>
      refine Kn_eq (by rw [x_back]) ?_
      exact Kn_ite (Kn_c rfl (ih _ _ _)) (Kn_ite (Kn_c rfl (ih _ _ _)) (Kn_c rfl (ih _ _ _)))
    | 2 =>
      refine Kn_eq (by rw [x_back]) ?_
      exact Kn_c rfl (ih _ _ _)
    | 3 =>
      refine Kn_eq (by rw [x_back]) ?_
      exact Kn_c rfl (ih _ _ _)
    | 4 =>
      refine Kn_eq (by rw [x_back]) ?_
      exact Kn_ob (Kn_c rfl (kn_good _ _ _ _)) (fun _ h637 => Kn_ite (Kn_so h637) (Kn_c h637 (ih _ _ _)))
    | 5 =>
      refine Kn_eq (by rw [x_back]) ?_
      exact Kn_ob (Kn_c rfl (kn_reset _ _ _ _)) (fun _ h638 => Kn_c h638 (ih _ _ _))
    | 6 =>
      refine Kn_eq (by rw [x_back]) ?_
      exact Kn_ite (Kn_c rfl (ih _ _ _)) (Kn_ite (Kn_ob (Kn_c rfl (kn_begin _ _ _ _)) (fun _ h639 => Kn_c h639 (ih _ _ _))) (Kn_no _))
    | 7 =>
      refine Kn_eq (by rw [x_back]) ?_
      exact Kn_so rfl
    | b + 8 =>
      refine Kn_eq (by rw [x_back]) (Kn_no _)
theorem kn_start : ∀ (k b : Nat) (L : Nat → Int32) (J : Nat → Int64) (σ : MS), Kn (x_start k b L J σ) (kn σ) := by
  intro k
  induction k with
  | zero => intro b L J σ; exact Kn_no _
  | succ k ih =>
    intro b L J σ
    match b with
    | 0 =>
      refine Kn_eq (by rw [x_start]) ?_
      exact Kn_ite (Kn_c rfl (ih _ _ _ _)) (Kn_c rfl (ih _ _ _ _))
    | 1 =>
      refine Kn_eq (by rw [x_start]) ?_
      exact Kn_c rfl (ih _ _ _ _)
    | 2 =>
      refine Kn_eq (by rw [x_start]) ?_
      exact Kn_ob (Kn_c rfl (kn_good _ _ _ _)) (fun _ h640 => Kn_ite (Kn_so h640) (Kn_c h640 (ih _ _ _ _)))
    | 3 =>
      refine Kn_eq (by rw [x_start]) ?_
      exact Kn_c rfl (ih _ _ _ _)
    | 4 =>
      refine Kn_eq (by rw [x_start]) ?_
      exact Kn_c rfl (ih _ _ _ _)
    | 5 =>
      refine Kn_eq (by rw [x_start]) ?_
      exact Kn_ob (Kn_c rfl (kn_reset _ _ _ _)) (fun _ h641 => Kn_so h641)
    | b + 6 =>
      refine Kn_eq (by rw [x_start]) (Kn_no _)
