/-! What working a value never writes (reference; made by kv.py). -/
abbrev KVt := Int64 × Int32 × Int32 × Int32 × Int32 × Int32 × Int32 × Int32 × Int32 × Int32 × Int32 × Int32 × Int32 × Int32 × Int32 × Int32 × Int32 × Int32 × Int32 × Int32 × Int32 × Int32 × Int32 × Int32 × Int32 × Int32 × Int32 × Int32 × (Nat → Int32) × (Nat → Int32) × (Nat → Int32) × (Nat → Int32) × (Nat → Int32) × (Nat → Int32) × (Nat → Int32) × (Nat → Int32) × (Nat → Int32) × (Nat → Int32) × (Nat → Int32) × (Nat → Int32) × (Nat → Int32) × (Nat → Int32) × (Nat → Int32) × (Nat → Int32) × (Nat → Int32) × (Nat → Int32) × (Nat → Int32) × (Nat → Int32) × (Nat → Int32) × (Nat → Int32) × (Nat → Int32) × (Nat → Int32) × (Nat → Int32) × (Nat → Int32) × (Nat → Int32) × (Nat → Int32) × (Nat → Int32)
def kv (σ : MS) : KVt := (σ.2.1 113, σ.1 2, σ.1 4, σ.1 11, σ.1 22, σ.1 24, σ.1 25, σ.1 30, σ.1 31, σ.1 44, σ.1 63, σ.1 64, σ.1 65, σ.1 66, σ.1 73, σ.1 79, σ.1 102, σ.1 103, σ.1 104, σ.1 105, σ.1 106, σ.1 108, σ.1 109, σ.1 110, σ.1 111, σ.1 112, σ.1 115, σ.1 120, σ.2.2 1, σ.2.2 2, σ.2.2 3, σ.2.2 4, σ.2.2 5, σ.2.2 6, σ.2.2 7, σ.2.2 8, σ.2.2 9, σ.2.2 10, σ.2.2 11, σ.2.2 12, σ.2.2 13, σ.2.2 14, σ.2.2 15, σ.2.2 16, σ.2.2 17, σ.2.2 18, σ.2.2 19, σ.2.2 20, σ.2.2 21, σ.2.2 32, σ.2.2 39, σ.2.2 52, σ.2.2 53, σ.2.2 54, σ.2.2 55, σ.2.2 56, σ.2.2 57)
def Kv (x : Option (Int32 × MS)) (w : KVt) : Prop := ∀ r, x = some r → kv r.2 = w
theorem Kv_no (w : KVt) : Kv none w := fun _ h => by cases h
theorem Kv_so {r : Int32 × MS} {w : KVt} (h : kv r.2 = w) : Kv (some r) w := fun _ e => by cases e; exact h
theorem Kv_eq {a a' : Option (Int32 × MS)} {w : KVt} (h1 : a = a') (h : Kv a' w) : Kv a w := by rw [h1]; exact h
theorem Kv_c {a : Option (Int32 × MS)} {w w' : KVt} (h : w' = w) (t : Kv a w') : Kv a w := h ▸ t
theorem Kv_ob {x : Option (Int32 × MS)} {f : Int32 × MS → Option (Int32 × MS)} {w : KVt} (h1 : Kv x w) (h2 : ∀ r, kv r.2 = w → Kv (f r) w) : Kv (ob x f) w := by
  intro r hr
  cases x with
  | none => cases hr
  | some s => exact h2 s (h1 s rfl) r hr
theorem Kv_ite {c : Prop} {_ : Decidable c} {a b : Option (Int32 × MS)} {w : KVt} (h1 : Kv a w) (h2 : Kv b w) : Kv (if c then a else b) w := by
  by_cases h : c
  · rw [if_pos h]; exact h1
  · rw [if_neg h]; exact h2
theorem Kv_od {d : Nat} {f : Nat → Option (Int32 × MS)} {w : KVt} (h : ∀ e, Kv (f e) w) : Kv (od d f) w := by
  cases d with
  | zero => exact Kv_no _
  | succ e => exact h e
theorem kv_copied : ∀ (k b : Nat) (L : Nat → Int32) (σ : MS), Kv (x_copied k b L σ) (kv σ) := by
  intro k
  induction k with
  | zero => intro b L σ; exact Kv_no _
  | succ k ih =>
    intro b L σ
    match b with
    | 0 =>
      refine Kv_eq (by rw [x_copied]) ?_
      exact Kv_ite (Kv_c rfl (ih _ _ _)) (Kv_so rfl)
    | 1 =>
      refine Kv_eq (by rw [x_copied]) ?_
      exact Kv_ite (Kv_ite (Kv_ite (Kv_so rfl) (Kv_no _)) (Kv_c rfl (ih _ _ _))) (Kv_no _)
    | 2 =>
      refine Kv_eq (by rw [x_copied]) ?_
      exact Kv_ite (Kv_c rfl (ih _ _ _)) (Kv_no _)
    | 3 =>
      refine Kv_eq (by rw [x_copied]) ?_
      exact Kv_c rfl (ih _ _ _)
    | 4 =>
      refine Kv_eq (by rw [x_copied]) ?_
      exact Kv_ite (Kv_c rfl (ih _ _ _)) (Kv_ite (Kv_ite (Kv_c rfl (ih _ _ _)) (Kv_no _)) (Kv_no _))
    | 5 =>
      refine Kv_eq (by rw [x_copied]) ?_
      exact Kv_c rfl (ih _ _ _)
    | 6 =>
      refine Kv_eq (by rw [x_copied]) ?_
      exact Kv_ite (Kv_c rfl (ih _ _ _)) (Kv_no _)
    | 7 =>
      refine Kv_eq (by rw [x_copied]) ?_
      exact Kv_ite (Kv_c rfl (ih _ _ _)) (Kv_no _)
    | 8 =>
      refine Kv_eq (by rw [x_copied]) ?_
      exact Kv_so rfl
    | b + 9 =>
      refine Kv_eq (by rw [x_copied]) (Kv_no _)
theorem kv_copyRow__29 : ∀ (k b : Nat) (L : Nat → Int32) (σ : MS), Kv (x_copyRow__29 k b L σ) (kv σ) := by
  intro k
  induction k with
  | zero => intro b L σ; exact Kv_no _
  | succ k ih =>
    intro b L σ
    match b with
    | 0 =>
      refine Kv_eq (by rw [x_copyRow__29]) ?_
      exact Kv_c rfl (ih _ _ _)
    | 1 =>
      refine Kv_eq (by rw [x_copyRow__29]) ?_
      exact Kv_ite (Kv_c rfl (ih _ _ _)) (Kv_ite (Kv_ob (Kv_c rfl (kv_copied _ _ _ _)) (fun _ h1 => Kv_ite (Kv_c h1 (ih _ _ _)) (Kv_no _))) (Kv_no _))
    | 2 =>
      refine Kv_eq (by rw [x_copyRow__29]) ?_
      exact Kv_c rfl (ih _ _ _)
    | 3 =>
      refine Kv_eq (by rw [x_copyRow__29]) ?_
      exact Kv_so rfl
    | b + 4 =>
      refine Kv_eq (by rw [x_copyRow__29]) (Kv_no _)
theorem kv_copyRow__30 : ∀ (k b : Nat) (L : Nat → Int32) (σ : MS), Kv (x_copyRow__30 k b L σ) (kv σ) := by
  intro k
  induction k with
  | zero => intro b L σ; exact Kv_no _
  | succ k ih =>
    intro b L σ
    match b with
    | 0 =>
      refine Kv_eq (by rw [x_copyRow__30]) ?_
      exact Kv_c rfl (ih _ _ _)
    | 1 =>
      refine Kv_eq (by rw [x_copyRow__30]) ?_
      exact Kv_ite (Kv_c rfl (ih _ _ _)) (Kv_ite (Kv_ob (Kv_c rfl (kv_copied _ _ _ _)) (fun _ h2 => Kv_ite (Kv_c h2 (ih _ _ _)) (Kv_no _))) (Kv_no _))
    | 2 =>
      refine Kv_eq (by rw [x_copyRow__30]) ?_
      exact Kv_c rfl (ih _ _ _)
    | 3 =>
      refine Kv_eq (by rw [x_copyRow__30]) ?_
      exact Kv_so rfl
    | b + 4 =>
      refine Kv_eq (by rw [x_copyRow__30]) (Kv_no _)
theorem kv_copyState__30 : ∀ (k b : Nat) (L : Nat → Int32) (σ : MS), Kv (x_copyState__30 k b L σ) (kv σ) := by
  intro k
  induction k with
  | zero => intro b L σ; exact Kv_no _
  | succ k ih =>
    intro b L σ
    match b with
    | 0 =>
      refine Kv_eq (by rw [x_copyState__30]) ?_
      exact Kv_ob (Kv_c rfl (kv_copyRow__30 _ _ _ _)) (fun _ h3 => Kv_ite (Kv_ob (Kv_c h3 (kv_copyRow__30 _ _ _ _)) (fun _ h4 => Kv_ite (Kv_ob (Kv_c h4 (kv_copyRow__30 _ _ _ _)) (fun _ h5 => Kv_so h5)) (Kv_no _))) (Kv_no _))
    | b + 1 =>
      refine Kv_eq (by rw [x_copyState__30]) (Kv_no _)
theorem kv_copyRow__31 : ∀ (k b : Nat) (L : Nat → Int32) (σ : MS), Kv (x_copyRow__31 k b L σ) (kv σ) := by
  intro k
  induction k with
  | zero => intro b L σ; exact Kv_no _
  | succ k ih =>
    intro b L σ
    match b with
    | 0 =>
      refine Kv_eq (by rw [x_copyRow__31]) ?_
      exact Kv_c rfl (ih _ _ _)
    | 1 =>
      refine Kv_eq (by rw [x_copyRow__31]) ?_
      exact Kv_ite (Kv_c rfl (ih _ _ _)) (Kv_ite (Kv_ob (Kv_c rfl (kv_copied _ _ _ _)) (fun _ h6 => Kv_ite (Kv_c h6 (ih _ _ _)) (Kv_no _))) (Kv_no _))
    | 2 =>
      refine Kv_eq (by rw [x_copyRow__31]) ?_
      exact Kv_c rfl (ih _ _ _)
    | 3 =>
      refine Kv_eq (by rw [x_copyRow__31]) ?_
      exact Kv_so rfl
    | b + 4 =>
      refine Kv_eq (by rw [x_copyRow__31]) (Kv_no _)
theorem kv_copyState__31 : ∀ (k b : Nat) (L : Nat → Int32) (σ : MS), Kv (x_copyState__31 k b L σ) (kv σ) := by
  intro k
  induction k with
  | zero => intro b L σ; exact Kv_no _
  | succ k ih =>
    intro b L σ
    match b with
    | 0 =>
      refine Kv_eq (by rw [x_copyState__31]) ?_
      exact Kv_ob (Kv_c rfl (kv_copyRow__31 _ _ _ _)) (fun _ h7 => Kv_ite (Kv_ob (Kv_c h7 (kv_copyRow__31 _ _ _ _)) (fun _ h8 => Kv_ite (Kv_ob (Kv_c h8 (kv_copyRow__31 _ _ _ _)) (fun _ h9 => Kv_so h9)) (Kv_no _))) (Kv_no _))
    | b + 1 =>
      refine Kv_eq (by rw [x_copyState__31]) (Kv_no _)
theorem kv_copyRow__33 : ∀ (k b : Nat) (L : Nat → Int32) (σ : MS), Kv (x_copyRow__33 k b L σ) (kv σ) := by
  intro k
  induction k with
  | zero => intro b L σ; exact Kv_no _
  | succ k ih =>
    intro b L σ
    match b with
    | 0 =>
      refine Kv_eq (by rw [x_copyRow__33]) ?_
      exact Kv_c rfl (ih _ _ _)
    | 1 =>
      refine Kv_eq (by rw [x_copyRow__33]) ?_
      exact Kv_ite (Kv_c rfl (ih _ _ _)) (Kv_ite (Kv_ob (Kv_c rfl (kv_copied _ _ _ _)) (fun _ h10 => Kv_ite (Kv_c h10 (ih _ _ _)) (Kv_no _))) (Kv_no _))
    | 2 =>
      refine Kv_eq (by rw [x_copyRow__33]) ?_
      exact Kv_c rfl (ih _ _ _)
    | 3 =>
      refine Kv_eq (by rw [x_copyRow__33]) ?_
      exact Kv_so rfl
    | b + 4 =>
      refine Kv_eq (by rw [x_copyRow__33]) (Kv_no _)
theorem kv_copyRow__34 : ∀ (k b : Nat) (L : Nat → Int32) (σ : MS), Kv (x_copyRow__34 k b L σ) (kv σ) := by
  intro k
  induction k with
  | zero => intro b L σ; exact Kv_no _
  | succ k ih =>
    intro b L σ
    match b with
    | 0 =>
      refine Kv_eq (by rw [x_copyRow__34]) ?_
      exact Kv_c rfl (ih _ _ _)
    | 1 =>
      refine Kv_eq (by rw [x_copyRow__34]) ?_
      exact Kv_ite (Kv_c rfl (ih _ _ _)) (Kv_ite (Kv_ob (Kv_c rfl (kv_copied _ _ _ _)) (fun _ h11 => Kv_ite (Kv_c h11 (ih _ _ _)) (Kv_no _))) (Kv_no _))
    | 2 =>
      refine Kv_eq (by rw [x_copyRow__34]) ?_
      exact Kv_c rfl (ih _ _ _)
    | 3 =>
      refine Kv_eq (by rw [x_copyRow__34]) ?_
      exact Kv_so rfl
    | b + 4 =>
      refine Kv_eq (by rw [x_copyRow__34]) (Kv_no _)
theorem kv_copyRow__36 : ∀ (k b : Nat) (L : Nat → Int32) (σ : MS), Kv (x_copyRow__36 k b L σ) (kv σ) := by
  intro k
  induction k with
  | zero => intro b L σ; exact Kv_no _
  | succ k ih =>
    intro b L σ
    match b with
    | 0 =>
      refine Kv_eq (by rw [x_copyRow__36]) ?_
      exact Kv_c rfl (ih _ _ _)
    | 1 =>
      refine Kv_eq (by rw [x_copyRow__36]) ?_
      exact Kv_ite (Kv_c rfl (ih _ _ _)) (Kv_ite (Kv_ob (Kv_c rfl (kv_copied _ _ _ _)) (fun _ h12 => Kv_ite (Kv_c h12 (ih _ _ _)) (Kv_no _))) (Kv_no _))
    | 2 =>
      refine Kv_eq (by rw [x_copyRow__36]) ?_
      exact Kv_c rfl (ih _ _ _)
    | 3 =>
      refine Kv_eq (by rw [x_copyRow__36]) ?_
      exact Kv_so rfl
    | b + 4 =>
      refine Kv_eq (by rw [x_copyRow__36]) (Kv_no _)
theorem kv_copyRow__37 : ∀ (k b : Nat) (L : Nat → Int32) (σ : MS), Kv (x_copyRow__37 k b L σ) (kv σ) := by
  intro k
  induction k with
  | zero => intro b L σ; exact Kv_no _
  | succ k ih =>
    intro b L σ
    match b with
    | 0 =>
      refine Kv_eq (by rw [x_copyRow__37]) ?_
      exact Kv_c rfl (ih _ _ _)
    | 1 =>
      refine Kv_eq (by rw [x_copyRow__37]) ?_
      exact Kv_ite (Kv_c rfl (ih _ _ _)) (Kv_ite (Kv_ob (Kv_c rfl (kv_copied _ _ _ _)) (fun _ h13 => Kv_ite (Kv_c h13 (ih _ _ _)) (Kv_no _))) (Kv_no _))
    | 2 =>
      refine Kv_eq (by rw [x_copyRow__37]) ?_
      exact Kv_c rfl (ih _ _ _)
    | 3 =>
      refine Kv_eq (by rw [x_copyRow__37]) ?_
      exact Kv_so rfl
    | b + 4 =>
      refine Kv_eq (by rw [x_copyRow__37]) (Kv_no _)
theorem kv_copyRow__38 : ∀ (k b : Nat) (L : Nat → Int32) (σ : MS), Kv (x_copyRow__38 k b L σ) (kv σ) := by
  intro k
  induction k with
  | zero => intro b L σ; exact Kv_no _
  | succ k ih =>
    intro b L σ
    match b with
    | 0 =>
      refine Kv_eq (by rw [x_copyRow__38]) ?_
      exact Kv_c rfl (ih _ _ _)
    | 1 =>
      refine Kv_eq (by rw [x_copyRow__38]) ?_
      exact Kv_ite (Kv_c rfl (ih _ _ _)) (Kv_ite (Kv_ob (Kv_c rfl (kv_copied _ _ _ _)) (fun _ h14 => Kv_ite (Kv_c h14 (ih _ _ _)) (Kv_no _))) (Kv_no _))
    | 2 =>
      refine Kv_eq (by rw [x_copyRow__38]) ?_
      exact Kv_c rfl (ih _ _ _)
    | 3 =>
      refine Kv_eq (by rw [x_copyRow__38]) ?_
      exact Kv_so rfl
    | b + 4 =>
      refine Kv_eq (by rw [x_copyRow__38]) (Kv_no _)
theorem kv_copyRow__40 : ∀ (k b : Nat) (L : Nat → Int32) (σ : MS), Kv (x_copyRow__40 k b L σ) (kv σ) := by
  intro k
  induction k with
  | zero => intro b L σ; exact Kv_no _
  | succ k ih =>
    intro b L σ
    match b with
    | 0 =>
      refine Kv_eq (by rw [x_copyRow__40]) ?_
      exact Kv_c rfl (ih _ _ _)
    | 1 =>
      refine Kv_eq (by rw [x_copyRow__40]) ?_
      exact Kv_ite (Kv_c rfl (ih _ _ _)) (Kv_ite (Kv_ob (Kv_c rfl (kv_copied _ _ _ _)) (fun _ h15 => Kv_ite (Kv_c h15 (ih _ _ _)) (Kv_no _))) (Kv_no _))
    | 2 =>
      refine Kv_eq (by rw [x_copyRow__40]) ?_
      exact Kv_c rfl (ih _ _ _)
    | 3 =>
      refine Kv_eq (by rw [x_copyRow__40]) ?_
      exact Kv_so rfl
    | b + 4 =>
      refine Kv_eq (by rw [x_copyRow__40]) (Kv_no _)
theorem kv_copyRow__28 : ∀ (k b : Nat) (L : Nat → Int32) (σ : MS), Kv (x_copyRow__28 k b L σ) (kv σ) := by
  intro k
  induction k with
  | zero => intro b L σ; exact Kv_no _
  | succ k ih =>
    intro b L σ
    match b with
    | 0 =>
      refine Kv_eq (by rw [x_copyRow__28]) ?_
      exact Kv_c rfl (ih _ _ _)
    | 1 =>
      refine Kv_eq (by rw [x_copyRow__28]) ?_
      exact Kv_ite (Kv_c rfl (ih _ _ _)) (Kv_ite (Kv_ob (Kv_c rfl (kv_copied _ _ _ _)) (fun _ h16 => Kv_ite (Kv_c h16 (ih _ _ _)) (Kv_no _))) (Kv_no _))
    | 2 =>
      refine Kv_eq (by rw [x_copyRow__28]) ?_
      exact Kv_c rfl (ih _ _ _)
    | 3 =>
      refine Kv_eq (by rw [x_copyRow__28]) ?_
      exact Kv_so rfl
    | b + 4 =>
      refine Kv_eq (by rw [x_copyRow__28]) (Kv_no _)
theorem kv_sweep : ∀ (k b : Nat) (L : Nat → Int32) (σ : MS), Kv (x_sweep k b L σ) (kv σ) := by
  intro k
  induction k with
  | zero => intro b L σ; exact Kv_no _
  | succ k ih =>
    intro b L σ
    match b with
    | 0 =>
      refine Kv_eq (by rw [x_sweep]) ?_
      exact Kv_ite (Kv_c rfl (ih _ _ _)) (Kv_so rfl)
    | 1 =>
      refine Kv_eq (by rw [x_sweep]) ?_
      exact Kv_ite (Kv_c rfl (ih _ _ _)) (Kv_c rfl (ih _ _ _))
    | 2 =>
      refine Kv_eq (by rw [x_sweep]) ?_
      exact Kv_c rfl (ih _ _ _)
    | 3 =>
      refine Kv_eq (by rw [x_sweep]) ?_
      exact Kv_c rfl (ih _ _ _)
    | 4 =>
      refine Kv_eq (by rw [x_sweep]) ?_
      exact Kv_c rfl (ih _ _ _)
    | 5 =>
      refine Kv_eq (by rw [x_sweep]) ?_
      exact Kv_ob (Kv_c rfl (kv_copyRow__29 _ _ _ _)) (fun _ h17 => Kv_ob (Kv_c h17 (kv_copyState__30 _ _ _ _)) (fun _ h18 => Kv_c h18 (ih _ _ _)))
    | 6 =>
      refine Kv_eq (by rw [x_sweep]) ?_
      exact Kv_ite (Kv_c rfl (ih _ _ _)) (Kv_ob (Kv_c rfl (kv_copyState__31 _ _ _ _)) (fun _ h19 => Kv_c h19 (ih _ _ _)))
    | 7 =>
      refine Kv_eq (by rw [x_sweep]) ?_
      exact Kv_ob (Kv_c rfl (kv_copyRow__33 _ _ _ _)) (fun _ h20 => Kv_ob (Kv_c h20 (kv_copyRow__34 _ _ _ _)) (fun _ h21 => Kv_ob (Kv_c h21 (kv_copyRow__36 _ _ _ _)) (fun _ h22 => Kv_ob (Kv_c h22 (kv_copyRow__37 _ _ _ _)) (fun _ h23 => Kv_ob (Kv_c h23 (kv_copyRow__38 _ _ _ _)) (fun _ h24 => Kv_ob (Kv_c h24 (kv_copyRow__40 _ _ _ _)) (fun _ h25 => Kv_c h25 (ih _ _ _)))))))
    | 8 =>
      refine Kv_eq (by rw [x_sweep]) ?_
      exact Kv_ite (Kv_c rfl (ih _ _ _)) (Kv_ite (Kv_ite (Kv_ite (Kv_c rfl (ih _ _ _)) (Kv_ite (Kv_c rfl (ih _ _ _)) (Kv_c rfl (ih _ _ _)))) (Kv_no _)) (Kv_no _))
    | 9 =>
      refine Kv_eq (by rw [x_sweep]) ?_
      exact Kv_ob (Kv_c rfl (kv_copyRow__28 _ _ _ _)) (fun _ h26 => Kv_c h26 (ih _ _ _))
    | 10 =>
      refine Kv_eq (by rw [x_sweep]) ?_
      exact Kv_c rfl (ih _ _ _)
    | 11 =>
      refine Kv_eq (by rw [x_sweep]) ?_
      exact Kv_so rfl
    | b + 12 =>
      refine Kv_eq (by rw [x_sweep]) (Kv_no _)
theorem kv_fail : ∀ (k b : Nat) (L : Nat → Int32) (σ : MS), Kv (x_fail k b L σ) (kv σ) := by
  intro k
  induction k with
  | zero => intro b L σ; exact Kv_no _
  | succ k ih =>
    intro b L σ
    match b with
    | 0 =>
      refine Kv_eq (by rw [x_fail]) ?_
      exact Kv_ite (Kv_c rfl (ih _ _ _)) (Kv_c rfl (ih _ _ _))
    | 1 =>
      refine Kv_eq (by rw [x_fail]) ?_
      exact Kv_c rfl (ih _ _ _)
    | 2 =>
      refine Kv_eq (by rw [x_fail]) ?_
      exact Kv_so rfl
    | b + 3 =>
      refine Kv_eq (by rw [x_fail]) (Kv_no _)
theorem kv_make : ∀ (k b : Nat) (L : Nat → Int32) (σ : MS), Kv (x_make k b L σ) (kv σ) := by
  intro k
  induction k with
  | zero => intro b L σ; exact Kv_no _
  | succ k ih =>
    intro b L σ
    match b with
    | 0 =>
      refine Kv_eq (by rw [x_make]) ?_
      exact Kv_ite (Kv_c rfl (ih _ _ _)) (Kv_ob (Kv_c rfl (kv_fail _ _ _ _)) (fun _ h27 => Kv_so h27))
    | 1 =>
      refine Kv_eq (by rw [x_make]) ?_
      exact Kv_c rfl (ih _ _ _)
    | 2 =>
      refine Kv_eq (by rw [x_make]) ?_
      exact Kv_ite (Kv_c rfl (ih _ _ _)) (Kv_no _)
    | 3 =>
      refine Kv_eq (by rw [x_make]) ?_
      exact Kv_ite (Kv_c rfl (ih _ _ _)) (Kv_no _)
    | 4 =>
      refine Kv_eq (by rw [x_make]) ?_
      exact Kv_ite (Kv_c rfl (ih _ _ _)) (Kv_no _)
    | 5 =>
      refine Kv_eq (by rw [x_make]) ?_
      exact Kv_ite (Kv_c rfl (ih _ _ _)) (Kv_no _)
    | 6 =>
      refine Kv_eq (by rw [x_make]) ?_
      exact Kv_so rfl
    | b + 7 =>
      refine Kv_eq (by rw [x_make]) (Kv_no _)
theorem kv_wholeOf : ∀ (k b : Nat) (L : Nat → Int32) (σ : MS), Kv (x_wholeOf k b L σ) (kv σ) := by
  intro k
  induction k with
  | zero => intro b L σ; exact Kv_no _
  | succ k ih =>
    intro b L σ
    match b with
    | 0 =>
      refine Kv_eq (by rw [x_wholeOf]) ?_
      exact Kv_ite (Kv_c rfl (ih _ _ _)) (Kv_ite (Kv_ite (Kv_c rfl (ih _ _ _)) (Kv_c rfl (ih _ _ _))) (Kv_no _))
    | 1 =>
      refine Kv_eq (by rw [x_wholeOf]) ?_
      exact Kv_ite (Kv_c rfl (ih _ _ _)) (Kv_ob (Kv_c rfl (kv_fail _ _ _ _)) (fun _ h28 => Kv_so h28))
    | 2 =>
      refine Kv_eq (by rw [x_wholeOf]) ?_
      exact Kv_ob (Kv_c rfl (kv_make _ _ _ _)) (fun _ h29 => Kv_ite (Kv_c h29 (ih _ _ _)) (Kv_so h29))
    | 3 =>
      refine Kv_eq (by rw [x_wholeOf]) ?_
      exact Kv_ite (Kv_c rfl (ih _ _ _)) (Kv_c rfl (ih _ _ _))
    | 4 =>
      refine Kv_eq (by rw [x_wholeOf]) ?_
      exact Kv_c rfl (ih _ _ _)
    | 5 =>
      refine Kv_eq (by rw [x_wholeOf]) ?_
      exact Kv_ite (Kv_c rfl (ih _ _ _)) (Kv_no _)
    | 6 =>
      refine Kv_eq (by rw [x_wholeOf]) ?_
      exact Kv_c rfl (ih _ _ _)
    | 7 =>
      refine Kv_eq (by rw [x_wholeOf]) ?_
      exact Kv_ite (Kv_c rfl (ih _ _ _)) (Kv_ite (Kv_ite (Kv_c rfl (ih _ _ _)) (Kv_no _)) (Kv_no _))
    | 8 =>
      refine Kv_eq (by rw [x_wholeOf]) ?_
      exact Kv_c rfl (ih _ _ _)
    | 9 =>
      refine Kv_eq (by rw [x_wholeOf]) ?_
      exact Kv_ite (Kv_no _) (Kv_ite (Kv_c rfl (ih _ _ _)) (Kv_no _))
    | 10 =>
      refine Kv_eq (by rw [x_wholeOf]) ?_
      exact Kv_so rfl
    | b + 11 =>
      refine Kv_eq (by rw [x_wholeOf]) (Kv_no _)
theorem kv_literal : ∀ (k b : Nat) (L : Nat → Int32) (σ : MS), Kv (x_literal k b L σ) (kv σ) := by
  intro k
  induction k with
  | zero => intro b L σ; exact Kv_no _
  | succ k ih =>
    intro b L σ
    match b with
    | 0 =>
      refine Kv_eq (by rw [x_literal]) ?_
      exact Kv_c rfl (ih _ _ _)
    | 1 =>
      refine Kv_eq (by rw [x_literal]) ?_
      exact Kv_c rfl (ih _ _ _)
    | 2 =>
      refine Kv_eq (by rw [x_literal]) ?_
      exact Kv_ite (Kv_c rfl (ih _ _ _)) (Kv_ite (Kv_c rfl (ih _ _ _)) (Kv_no _))
    | 3 =>
      refine Kv_eq (by rw [x_literal]) ?_
      exact Kv_ite (Kv_c rfl (ih _ _ _)) (Kv_ite (Kv_ite (Kv_c rfl (ih _ _ _)) (Kv_no _)) (Kv_no _))
    | 4 =>
      refine Kv_eq (by rw [x_literal]) ?_
      exact Kv_c rfl (ih _ _ _)
    | 5 =>
      refine Kv_eq (by rw [x_literal]) ?_
      exact Kv_ite (Kv_c rfl (ih _ _ _)) (Kv_ite (Kv_c rfl (ih _ _ _)) (Kv_no _))
    | 6 =>
      refine Kv_eq (by rw [x_literal]) ?_
      exact Kv_c rfl (ih _ _ _)
    | 7 =>
      refine Kv_eq (by rw [x_literal]) ?_
      exact Kv_c rfl (ih _ _ _)
    | 8 =>
      refine Kv_eq (by rw [x_literal]) ?_
      exact Kv_ob (Kv_c rfl (kv_wholeOf _ _ _ _)) (fun _ h30 => Kv_so h30)
    | b + 9 =>
      refine Kv_eq (by rw [x_literal]) (Kv_no _)
theorem kv_size : ∀ (k b : Nat) (L : Nat → Int32) (σ : MS), Kv (x_size k b L σ) (kv σ) := by
  intro k
  induction k with
  | zero => intro b L σ; exact Kv_no _
  | succ k ih =>
    intro b L σ
    match b with
    | 0 =>
      refine Kv_eq (by rw [x_size]) ?_
      exact Kv_ite (Kv_c rfl (ih _ _ _)) (Kv_c rfl (ih _ _ _))
    | 1 =>
      refine Kv_eq (by rw [x_size]) ?_
      exact Kv_ite (Kv_c rfl (ih _ _ _)) (Kv_no _)
    | 2 =>
      refine Kv_eq (by rw [x_size]) ?_
      exact Kv_so rfl
    | b + 3 =>
      refine Kv_eq (by rw [x_size]) (Kv_no _)
theorem kv_worked : ∀ (k b : Nat) (L : Nat → Int32) (σ : MS), Kv (x_worked k b L σ) (kv σ) := by
  intro k
  induction k with
  | zero => intro b L σ; exact Kv_no _
  | succ k ih =>
    intro b L σ
    match b with
    | 0 =>
      refine Kv_eq (by rw [x_worked]) ?_
      exact Kv_c rfl (ih _ _ _)
    | 1 =>
      refine Kv_eq (by rw [x_worked]) ?_
      exact Kv_ite (Kv_c rfl (ih _ _ _)) (Kv_ob (Kv_c rfl (kv_fail _ _ _ _)) (fun _ h31 => Kv_c h31 (ih _ _ _)))
    | 2 =>
      refine Kv_eq (by rw [x_worked]) ?_
      exact Kv_so rfl
    | b + 3 =>
      refine Kv_eq (by rw [x_worked]) (Kv_no _)
theorem kv_answer : ∀ (k b : Nat) (L : Nat → Int32) (σ : MS), Kv (x_answer k b L σ) (kv σ) := by
  intro k
  induction k with
  | zero => intro b L σ; exact Kv_no _
  | succ k ih =>
    intro b L σ
    match b with
    | 0 =>
      refine Kv_eq (by rw [x_answer]) ?_
      exact Kv_ite (Kv_ob (Kv_c rfl (kv_size _ _ _ _)) (fun _ h32 => Kv_ob (Kv_c h32 (kv_worked _ _ _ _)) (fun _ h33 => Kv_c h33 (ih _ _ _)))) (Kv_c rfl (ih _ _ _))
    | 1 =>
      refine Kv_eq (by rw [x_answer]) ?_
      exact Kv_so rfl
    | b + 2 =>
      refine Kv_eq (by rw [x_answer]) (Kv_no _)
theorem kv_push : ∀ (k b : Nat) (L : Nat → Int32) (σ : MS), Kv (x_push k b L σ) (kv σ) := by
  intro k
  induction k with
  | zero => intro b L σ; exact Kv_no _
  | succ k ih =>
    intro b L σ
    match b with
    | 0 =>
      refine Kv_eq (by rw [x_push]) ?_
      exact Kv_ite (Kv_c rfl (ih _ _ _)) (Kv_no _)
    | 1 =>
      refine Kv_eq (by rw [x_push]) ?_
      exact Kv_so rfl
    | b + 2 =>
      refine Kv_eq (by rw [x_push]) (Kv_no _)
theorem kv_stringOf__12 : ∀ (k b : Nat) (L : Nat → Int32) (σ : MS), Kv (x_stringOf__12 k b L σ) (kv σ) := by
  intro k
  induction k with
  | zero => intro b L σ; exact Kv_no _
  | succ k ih =>
    intro b L σ
    match b with
    | 0 =>
      refine Kv_eq (by rw [x_stringOf__12]) ?_
      exact Kv_ite (Kv_no _) (Kv_ite (Kv_c rfl (ih _ _ _)) (Kv_ob (Kv_c rfl (kv_fail _ _ _ _)) (fun _ h34 => Kv_so h34)))
    | 1 =>
      refine Kv_eq (by rw [x_stringOf__12]) ?_
      exact Kv_ob (Kv_c rfl (kv_make _ _ _ _)) (fun _ h35 => Kv_c h35 (ih _ _ _))
    | 2 =>
      refine Kv_eq (by rw [x_stringOf__12]) ?_
      exact Kv_ite (Kv_c rfl (ih _ _ _)) (Kv_ite (Kv_ite (Kv_ite (Kv_c rfl (ih _ _ _)) (Kv_no _)) (Kv_no _)) (Kv_c rfl (ih _ _ _)))
    | 3 =>
      refine Kv_eq (by rw [x_stringOf__12]) ?_
      exact Kv_c rfl (ih _ _ _)
    | 4 =>
      refine Kv_eq (by rw [x_stringOf__12]) ?_
      exact Kv_ite (Kv_no _) (Kv_ite (Kv_c rfl (ih _ _ _)) (Kv_no _))
    | 5 =>
      refine Kv_eq (by rw [x_stringOf__12]) ?_
      exact Kv_so rfl
    | b + 6 =>
      refine Kv_eq (by rw [x_stringOf__12]) (Kv_no _)
theorem kv_newAtom : ∀ (k b : Nat) (L : Nat → Int32) (σ : MS), Kv (x_newAtom k b L σ) (kv σ) := by
  intro k
  induction k with
  | zero => intro b L σ; exact Kv_no _
  | succ k ih =>
    intro b L σ
    match b with
    | 0 =>
      refine Kv_eq (by rw [x_newAtom]) ?_
      exact Kv_ite (Kv_ob (Kv_c rfl (kv_fail _ _ _ _)) (fun _ h36 => Kv_so h36)) (Kv_c rfl (ih _ _ _))
    | 1 =>
      refine Kv_eq (by rw [x_newAtom]) ?_
      exact Kv_c rfl (ih _ _ _)
    | 2 =>
      refine Kv_eq (by rw [x_newAtom]) ?_
      exact Kv_ob (Kv_c rfl (kv_make _ _ _ _)) (fun _ h37 => Kv_ite (Kv_c h37 (ih _ _ _)) (Kv_so h37))
    | 3 =>
      refine Kv_eq (by rw [x_newAtom]) ?_
      exact Kv_ite (Kv_c rfl (ih _ _ _)) (Kv_no _)
    | 4 =>
      refine Kv_eq (by rw [x_newAtom]) ?_
      exact Kv_so rfl
    | b + 5 =>
      refine Kv_eq (by rw [x_newAtom]) (Kv_no _)
theorem kv_valueOf : ∀ (k b : Nat) (L : Nat → Int32) (σ : MS), Kv (x_valueOf k b L σ) (kv σ) := by
  intro k
  induction k with
  | zero => intro b L σ; exact Kv_no _
  | succ k ih =>
    intro b L σ
    match b with
    | 0 =>
      refine Kv_eq (by rw [x_valueOf]) ?_
      exact Kv_ite (Kv_ite (Kv_ite (Kv_ite (Kv_so rfl) (Kv_no _)) (Kv_no _)) (Kv_c rfl (ih _ _ _))) (Kv_no _)
    | 1 =>
      refine Kv_eq (by rw [x_valueOf]) ?_
      exact Kv_ite (Kv_c rfl (ih _ _ _)) (Kv_ite (Kv_ite (Kv_c rfl (ih _ _ _)) (Kv_no _)) (Kv_no _))
    | 2 =>
      refine Kv_eq (by rw [x_valueOf]) ?_
      exact Kv_ite (Kv_ite (Kv_ite (Kv_c rfl (ih _ _ _)) (Kv_no _)) (Kv_no _)) (Kv_no _)
    | 3 =>
      refine Kv_eq (by rw [x_valueOf]) ?_
      exact Kv_so rfl
    | b + 4 =>
      refine Kv_eq (by rw [x_valueOf]) (Kv_no _)
theorem kv_pop : ∀ (k b : Nat) (L : Nat → Int32) (σ : MS), Kv (x_pop k b L σ) (kv σ) := by
  intro k
  induction k with
  | zero => intro b L σ; exact Kv_no _
  | succ k ih =>
    intro b L σ
    match b with
    | 0 =>
      refine Kv_eq (by rw [x_pop]) ?_
      exact Kv_c rfl (ih _ _ _)
    | 1 =>
      refine Kv_eq (by rw [x_pop]) ?_
      exact Kv_ite (Kv_so rfl) (Kv_no _)
    | b + 2 =>
      refine Kv_eq (by rw [x_pop]) (Kv_no _)
theorem kv_kind : ∀ (k b : Nat) (L : Nat → Int32) (σ : MS), Kv (x_kind k b L σ) (kv σ) := by
  intro k
  induction k with
  | zero => intro b L σ; exact Kv_no _
  | succ k ih =>
    intro b L σ
    match b with
    | 0 =>
      refine Kv_eq (by rw [x_kind]) ?_
      exact Kv_ite (Kv_c rfl (ih _ _ _)) (Kv_c rfl (ih _ _ _))
    | 1 =>
      refine Kv_eq (by rw [x_kind]) ?_
      exact Kv_ite (Kv_c rfl (ih _ _ _)) (Kv_c rfl (ih _ _ _))
    | 2 =>
      refine Kv_eq (by rw [x_kind]) ?_
      exact Kv_ite (Kv_c rfl (ih _ _ _)) (Kv_no _)
    | 3 =>
      refine Kv_eq (by rw [x_kind]) ?_
      exact Kv_so rfl
    | b + 4 =>
      refine Kv_eq (by rw [x_kind]) (Kv_no _)
theorem kv_wrongKind : ∀ (k b : Nat) (L : Nat → Int32) (σ : MS), Kv (x_wrongKind k b L σ) (kv σ) := by
  intro k
  induction k with
  | zero => intro b L σ; exact Kv_no _
  | succ k ih =>
    intro b L σ
    match b with
    | 0 =>
      refine Kv_eq (by rw [x_wrongKind]) ?_
      exact Kv_ob (Kv_c rfl (kv_fail _ _ _ _)) (fun _ h38 => Kv_so h38)
    | b + 1 =>
      refine Kv_eq (by rw [x_wrongKind]) (Kv_no _)
theorem kv_signOf : ∀ (k b : Nat) (L : Nat → Int32) (σ : MS), Kv (x_signOf k b L σ) (kv σ) := by
  intro k
  induction k with
  | zero => intro b L σ; exact Kv_no _
  | succ k ih =>
    intro b L σ
    match b with
    | 0 =>
      refine Kv_eq (by rw [x_signOf]) ?_
      exact Kv_ite (Kv_so rfl) (Kv_no _)
    | b + 1 =>
      refine Kv_eq (by rw [x_signOf]) (Kv_no _)
theorem kv_loadA : ∀ (k b : Nat) (L : Nat → Int32) (σ : MS), Kv (x_loadA k b L σ) (kv σ) := by
  intro k
  induction k with
  | zero => intro b L σ; exact Kv_no _
  | succ k ih =>
    intro b L σ
    match b with
    | 0 =>
      refine Kv_eq (by rw [x_loadA]) ?_
      exact Kv_ite (Kv_c rfl (ih _ _ _)) (Kv_no _)
    | 1 =>
      refine Kv_eq (by rw [x_loadA]) ?_
      exact Kv_c rfl (ih _ _ _)
    | 2 =>
      refine Kv_eq (by rw [x_loadA]) ?_
      exact Kv_ite (Kv_c rfl (ih _ _ _)) (Kv_ite (Kv_ite (Kv_c rfl (ih _ _ _)) (Kv_no _)) (Kv_no _))
    | 3 =>
      refine Kv_eq (by rw [x_loadA]) ?_
      exact Kv_c rfl (ih _ _ _)
    | 4 =>
      refine Kv_eq (by rw [x_loadA]) ?_
      exact Kv_so rfl
    | b + 5 =>
      refine Kv_eq (by rw [x_loadA]) (Kv_no _)
theorem kv_other : ∀ (k b : Nat) (L : Nat → Int32) (σ : MS), Kv (x_other k b L σ) (kv σ) := by
  intro k
  induction k with
  | zero => intro b L σ; exact Kv_no _
  | succ k ih =>
    intro b L σ
    match b with
    | 0 =>
      refine Kv_eq (by rw [x_other]) ?_
      exact Kv_ob (Kv_c rfl (kv_loadA _ _ _ _)) (fun _ h39 => Kv_c h39 (ih _ _ _))
    | 1 =>
      refine Kv_eq (by rw [x_other]) ?_
      exact Kv_c rfl (ih _ _ _)
    | 2 =>
      refine Kv_eq (by rw [x_other]) ?_
      exact Kv_ite (Kv_c rfl (ih _ _ _)) (Kv_ite (Kv_ite (Kv_c rfl (ih _ _ _)) (Kv_no _)) (Kv_no _))
    | 3 =>
      refine Kv_eq (by rw [x_other]) ?_
      exact Kv_c rfl (ih _ _ _)
    | 4 =>
      refine Kv_eq (by rw [x_other]) ?_
      exact Kv_ob (Kv_c rfl (kv_signOf _ _ _ _)) (fun _ h40 => Kv_ob (Kv_c h40 (kv_wholeOf _ _ _ _)) (fun _ h41 => Kv_so h41))
    | b + 5 =>
      refine Kv_eq (by rw [x_other]) (Kv_no _)
theorem kv_isMap : ∀ (k b : Nat) (L : Nat → Int32) (σ : MS), Kv (x_isMap k b L σ) (kv σ) := by
  intro k
  induction k with
  | zero => intro b L σ; exact Kv_no _
  | succ k ih =>
    intro b L σ
    match b with
    | 0 =>
      refine Kv_eq (by rw [x_isMap]) ?_
      exact Kv_ob (Kv_c rfl (kv_kind _ _ _ _)) (fun _ h42 => Kv_ite (Kv_c h42 (ih _ _ _)) (Kv_c h42 (ih _ _ _)))
    | 1 =>
      refine Kv_eq (by rw [x_isMap]) ?_
      exact Kv_c rfl (ih _ _ _)
    | 2 =>
      refine Kv_eq (by rw [x_isMap]) ?_
      exact Kv_c rfl (ih _ _ _)
    | 3 =>
      refine Kv_eq (by rw [x_isMap]) ?_
      exact Kv_ite (Kv_c rfl (ih _ _ _)) (Kv_ite (Kv_ite (Kv_c rfl (ih _ _ _)) (Kv_ite (Kv_ob (Kv_c rfl (kv_kind _ _ _ _)) (fun _ h43 => Kv_ite (Kv_ite (Kv_ite (Kv_c h43 (ih _ _ _)) (Kv_c h43 (ih _ _ _))) (Kv_no _)) (Kv_c h43 (ih _ _ _)))) (Kv_no _))) (Kv_no _))
    | 4 =>
      refine Kv_eq (by rw [x_isMap]) ?_
      exact Kv_c rfl (ih _ _ _)
    | 5 =>
      refine Kv_eq (by rw [x_isMap]) ?_
      exact Kv_c rfl (ih _ _ _)
    | 6 =>
      refine Kv_eq (by rw [x_isMap]) ?_
      exact Kv_ite (Kv_so rfl) (Kv_no _)
    | b + 7 =>
      refine Kv_eq (by rw [x_isMap]) (Kv_no _)
theorem kv_rank : ∀ (k b : Nat) (L : Nat → Int32) (σ : MS), Kv (x_rank k b L σ) (kv σ) := by
  intro k
  induction k with
  | zero => intro b L σ; exact Kv_no _
  | succ k ih =>
    intro b L σ
    match b with
    | 0 =>
      refine Kv_eq (by rw [x_rank]) ?_
      exact Kv_ite (Kv_c rfl (ih _ _ _)) (Kv_c rfl (ih _ _ _))
    | 1 =>
      refine Kv_eq (by rw [x_rank]) ?_
      exact Kv_ite (Kv_c rfl (ih _ _ _)) (Kv_no _)
    | 2 =>
      refine Kv_eq (by rw [x_rank]) ?_
      exact Kv_so rfl
    | b + 3 =>
      refine Kv_eq (by rw [x_rank]) (Kv_no _)
theorem kv_compareWholes : ∀ (k b : Nat) (L : Nat → Int32) (σ : MS), Kv (x_compareWholes k b L σ) (kv σ) := by
  intro k
  induction k with
  | zero => intro b L σ; exact Kv_no _
  | succ k ih =>
    intro b L σ
    match b with
    | 0 =>
      refine Kv_eq (by rw [x_compareWholes]) ?_
      exact Kv_ob (Kv_c rfl (kv_signOf _ _ _ _)) (fun _ h44 => Kv_ob (Kv_c h44 (kv_signOf _ _ _ _)) (fun _ h45 => Kv_ite (Kv_c h45 (ih _ _ _)) (Kv_ob (Kv_c h45 (kv_signOf _ _ _ _)) (fun _ h46 => Kv_ob (Kv_c h46 (kv_signOf _ _ _ _)) (fun _ h47 => Kv_so h47)))))
    | 1 =>
      refine Kv_eq (by rw [x_compareWholes]) ?_
      exact Kv_ite (Kv_ite (Kv_c rfl (ih _ _ _)) (Kv_no _)) (Kv_no _)
    | 2 =>
      refine Kv_eq (by rw [x_compareWholes]) ?_
      exact Kv_ite (Kv_c rfl (ih _ _ _)) (Kv_ite (Kv_ite (Kv_ite (Kv_c rfl (ih _ _ _)) (Kv_no _)) (Kv_no _)) (Kv_c rfl (ih _ _ _)))
    | 3 =>
      refine Kv_eq (by rw [x_compareWholes]) ?_
      exact Kv_ob (Kv_c rfl (kv_signOf _ _ _ _)) (fun _ h48 => Kv_ite (Kv_c h48 (ih _ _ _)) (Kv_c h48 (ih _ _ _)))
    | 4 =>
      refine Kv_eq (by rw [x_compareWholes]) ?_
      exact Kv_c rfl (ih _ _ _)
    | 5 =>
      refine Kv_eq (by rw [x_compareWholes]) ?_
      exact Kv_so rfl
    | b + 6 =>
      refine Kv_eq (by rw [x_compareWholes]) (Kv_no _)
theorem kv_s_compare {X : Nat → Nat → Nat → (Nat → Int32) → MS → Option (Int32 × MS)} (hX : ∀ e m b L (σ : MS), Kv (X e m b L σ) (kv σ)) (k d b : Nat) (L : Nat → Int32) (σ : MS) : Kv (s_compare X k d b L σ) (kv σ) := by
  match b with
  | 0 => exact Kv_ite (Kv_so rfl) (Kv_c rfl (hX _ _ _ _ _))
  | 1 => exact Kv_ob (Kv_c rfl (kv_rank _ _ _ _)) (fun _ h49 => Kv_ob (Kv_c h49 (kv_rank _ _ _ _)) (fun _ h50 => Kv_ite (Kv_c h50 (hX _ _ _ _ _)) (Kv_so h50)))
  | 2 => exact Kv_ite (Kv_ite (Kv_ob (Kv_c rfl (kv_compareWholes _ _ _ _)) (fun _ h51 => Kv_so h51)) (Kv_c rfl (hX _ _ _ _ _))) (Kv_no _)
  | 3 => exact Kv_ite (Kv_ite (Kv_c rfl (hX _ _ _ _ _)) (Kv_no _)) (Kv_no _)
  | 4 => exact Kv_ite (Kv_c rfl (hX _ _ _ _ _)) (Kv_ite (Kv_c rfl (hX _ _ _ _ _)) (Kv_ite (Kv_c rfl (hX _ _ _ _ _)) (Kv_ite (Kv_c rfl (hX _ _ _ _ _)) (Kv_c rfl (hX _ _ _ _ _)))))
  | 5 => exact Kv_ite (Kv_ite (Kv_od (fun _ => Kv_ob (Kv_c rfl (hX _ _ _ _ _)) (fun _ h52 => Kv_c h52 (hX _ _ _ _ _)))) (Kv_no _)) (Kv_no _)
  | 6 => exact Kv_ite (Kv_ite (Kv_c rfl (hX _ _ _ _ _)) (Kv_no _)) (Kv_no _)
  | 7 => exact Kv_ite (Kv_c rfl (hX _ _ _ _ _)) (Kv_so rfl)
  | 8 => exact Kv_c rfl (hX _ _ _ _ _)
  | 9 => exact Kv_so rfl
  | b + 10 => exact Kv_no _
theorem kv_GC : ∀ (k d m b : Nat) (L : Nat → Int32) (σ : MS), Kv (x_GC k d m b L σ) (kv σ) := by
  intro k
  induction k with
  | zero => intro d m b L σ; exact Kv_no _
  | succ k ih =>
    intro d m b L σ
    match m with
    | 0 => exact kv_s_compare ih k d b L σ
    | m + 1 => exact Kv_no _
theorem kv_compare (k b : Nat) (L : Nat → Int32) (σ : MS) : Kv (x_compare k b L σ) (kv σ) := kv_GC k 40 0 b L σ
theorem kv_merge : ∀ (k b : Nat) (L : Nat → Int32) (σ : MS), Kv (x_merge k b L σ) (kv σ) := by
  intro k
  induction k with
  | zero => intro b L σ; exact Kv_no _
  | succ k ih =>
    intro b L σ
    match b with
    | 0 =>
      refine Kv_eq (by rw [x_merge]) ?_
      exact Kv_c rfl (ih _ _ _)
    | 1 =>
      refine Kv_eq (by rw [x_merge]) ?_
      exact Kv_ite (Kv_c rfl (ih _ _ _)) (Kv_ite (Kv_c rfl (ih _ _ _)) (Kv_ite (Kv_c rfl (ih _ _ _)) (Kv_ite (Kv_ite (Kv_ob (Kv_c rfl (kv_compare _ _ _ _)) (fun _ h53 => Kv_ite (Kv_c h53 (ih _ _ _)) (Kv_c h53 (ih _ _ _)))) (Kv_no _)) (Kv_no _))))
    | 2 =>
      refine Kv_eq (by rw [x_merge]) ?_
      exact Kv_c rfl (ih _ _ _)
    | 3 =>
      refine Kv_eq (by rw [x_merge]) ?_
      exact Kv_c rfl (ih _ _ _)
    | 4 =>
      refine Kv_eq (by rw [x_merge]) ?_
      exact Kv_ite (Kv_c rfl (ih _ _ _)) (Kv_ite (Kv_c rfl (ih _ _ _)) (Kv_no _))
    | 5 =>
      refine Kv_eq (by rw [x_merge]) ?_
      exact Kv_ite (Kv_c rfl (ih _ _ _)) (Kv_no _)
    | 6 =>
      refine Kv_eq (by rw [x_merge]) ?_
      exact Kv_ite (Kv_c rfl (ih _ _ _)) (Kv_no _)
    | 7 =>
      refine Kv_eq (by rw [x_merge]) ?_
      exact Kv_ite (Kv_c rfl (ih _ _ _)) (Kv_c rfl (ih _ _ _))
    | 8 =>
      refine Kv_eq (by rw [x_merge]) ?_
      exact Kv_c rfl (ih _ _ _)
    | 9 =>
      refine Kv_eq (by rw [x_merge]) ?_
      exact Kv_ite (Kv_c rfl (ih _ _ _)) (Kv_c rfl (ih _ _ _))
    | 10 =>
      refine Kv_eq (by rw [x_merge]) ?_
      exact Kv_c rfl (ih _ _ _)
    | 11 =>
      refine Kv_eq (by rw [x_merge]) ?_
      exact Kv_c rfl (ih _ _ _)
    | 12 =>
      refine Kv_eq (by rw [x_merge]) ?_
      exact Kv_so rfl
    | b + 13 =>
      refine Kv_eq (by rw [x_merge]) (Kv_no _)
theorem kv_distinct : ∀ (k b : Nat) (L : Nat → Int32) (σ : MS), Kv (x_distinct k b L σ) (kv σ) := by
  intro k
  induction k with
  | zero => intro b L σ; exact Kv_no _
  | succ k ih =>
    intro b L σ
    match b with
    | 0 =>
      refine Kv_eq (by rw [x_distinct]) ?_
      exact Kv_c rfl (ih _ _ _)
    | 1 =>
      refine Kv_eq (by rw [x_distinct]) ?_
      exact Kv_ite (Kv_c rfl (ih _ _ _)) (Kv_c rfl (ih _ _ _))
    | 2 =>
      refine Kv_eq (by rw [x_distinct]) ?_
      exact Kv_ite (Kv_c rfl (ih _ _ _)) (Kv_ite (Kv_c rfl (ih _ _ _)) (Kv_c rfl (ih _ _ _)))
    | 3 =>
      refine Kv_eq (by rw [x_distinct]) ?_
      exact Kv_c rfl (ih _ _ _)
    | 4 =>
      refine Kv_eq (by rw [x_distinct]) ?_
      exact Kv_ite (Kv_c rfl (ih _ _ _)) (Kv_c rfl (ih _ _ _))
    | 5 =>
      refine Kv_eq (by rw [x_distinct]) ?_
      exact Kv_c rfl (ih _ _ _)
    | 6 =>
      refine Kv_eq (by rw [x_distinct]) ?_
      exact Kv_ob (Kv_c rfl (kv_merge _ _ _ _)) (fun _ h54 => Kv_c h54 (ih _ _ _))
    | 7 =>
      refine Kv_eq (by rw [x_distinct]) ?_
      exact Kv_c rfl (ih _ _ _)
    | 8 =>
      refine Kv_eq (by rw [x_distinct]) ?_
      exact Kv_ite (Kv_c rfl (ih _ _ _)) (Kv_ite (Kv_ite (Kv_c rfl (ih _ _ _)) (Kv_no _)) (Kv_no _))
    | 9 =>
      refine Kv_eq (by rw [x_distinct]) ?_
      exact Kv_c rfl (ih _ _ _)
    | 10 =>
      refine Kv_eq (by rw [x_distinct]) ?_
      exact Kv_c rfl (ih _ _ _)
    | 11 =>
      refine Kv_eq (by rw [x_distinct]) ?_
      exact Kv_c rfl (ih _ _ _)
    | 12 =>
      refine Kv_eq (by rw [x_distinct]) ?_
      exact Kv_ite (Kv_c rfl (ih _ _ _)) (Kv_ite (Kv_c rfl (ih _ _ _)) (Kv_ite (Kv_ite (Kv_ob (Kv_c rfl (kv_compare _ _ _ _)) (fun _ h55 => Kv_ite (Kv_c h55 (ih _ _ _)) (Kv_c h55 (ih _ _ _)))) (Kv_no _)) (Kv_no _)))
    | 13 =>
      refine Kv_eq (by rw [x_distinct]) ?_
      exact Kv_ite (Kv_ite (Kv_c rfl (ih _ _ _)) (Kv_no _)) (Kv_no _)
    | 14 =>
      refine Kv_eq (by rw [x_distinct]) ?_
      exact Kv_c rfl (ih _ _ _)
    | 15 =>
      refine Kv_eq (by rw [x_distinct]) ?_
      exact Kv_c rfl (ih _ _ _)
    | 16 =>
      refine Kv_eq (by rw [x_distinct]) ?_
      exact Kv_so rfl
    | b + 17 =>
      refine Kv_eq (by rw [x_distinct]) (Kv_no _)
theorem kv_height : ∀ (k b : Nat) (L : Nat → Int32) (σ : MS), Kv (x_height k b L σ) (kv σ) := by
  intro k
  induction k with
  | zero => intro b L σ; exact Kv_no _
  | succ k ih =>
    intro b L σ
    match b with
    | 0 =>
      refine Kv_eq (by rw [x_height]) ?_
      exact Kv_ite (Kv_c rfl (ih _ _ _)) (Kv_c rfl (ih _ _ _))
    | 1 =>
      refine Kv_eq (by rw [x_height]) ?_
      exact Kv_ite (Kv_c rfl (ih _ _ _)) (Kv_no _)
    | 2 =>
      refine Kv_eq (by rw [x_height]) ?_
      exact Kv_so rfl
    | b + 3 =>
      refine Kv_eq (by rw [x_height]) (Kv_no _)
theorem kv_checked : ∀ (k b : Nat) (L : Nat → Int32) (σ : MS), Kv (x_checked k b L σ) (kv σ) := by
  intro k
  induction k with
  | zero => intro b L σ; exact Kv_no _
  | succ k ih =>
    intro b L σ
    match b with
    | 0 =>
      refine Kv_eq (by rw [x_checked]) ?_
      exact Kv_ite (Kv_ite (Kv_ite (Kv_c rfl (ih _ _ _)) (Kv_ite (Kv_ite (Kv_c rfl (ih _ _ _)) (Kv_c rfl (ih _ _ _))) (Kv_no _))) (Kv_no _)) (Kv_c rfl (ih _ _ _))
    | 1 =>
      refine Kv_eq (by rw [x_checked]) ?_
      exact Kv_ob (Kv_c rfl (kv_fail _ _ _ _)) (fun _ h56 => Kv_c h56 (ih _ _ _))
    | 2 =>
      refine Kv_eq (by rw [x_checked]) ?_
      exact Kv_ite (Kv_c rfl (ih _ _ _)) (Kv_c rfl (ih _ _ _))
    | 3 =>
      refine Kv_eq (by rw [x_checked]) ?_
      exact Kv_c rfl (ih _ _ _)
    | 4 =>
      refine Kv_eq (by rw [x_checked]) ?_
      exact Kv_so rfl
    | b + 5 =>
      refine Kv_eq (by rw [x_checked]) (Kv_no _)
theorem kv_measured : ∀ (k b : Nat) (L : Nat → Int32) (σ : MS), Kv (x_measured k b L σ) (kv σ) := by
  intro k
  induction k with
  | zero => intro b L σ; exact Kv_no _
  | succ k ih =>
    intro b L σ
    match b with
    | 0 =>
      refine Kv_eq (by rw [x_measured]) ?_
      exact Kv_ite (Kv_c rfl (ih _ _ _)) (Kv_no _)
    | 1 =>
      refine Kv_eq (by rw [x_measured]) ?_
      exact Kv_ite (Kv_c rfl (ih _ _ _)) (Kv_ite (Kv_ob (Kv_c rfl (kv_size _ _ _ _)) (fun _ h57 => Kv_ob (Kv_c h57 (kv_height _ _ _ _)) (fun _ h58 => Kv_ite (Kv_c h58 (ih _ _ _)) (Kv_ob (Kv_c h58 (kv_height _ _ _ _)) (fun _ h59 => Kv_c h59 (ih _ _ _)))))) (Kv_no _))
    | 2 =>
      refine Kv_eq (by rw [x_measured]) ?_
      exact Kv_c rfl (ih _ _ _)
    | 3 =>
      refine Kv_eq (by rw [x_measured]) ?_
      exact Kv_c rfl (ih _ _ _)
    | 4 =>
      refine Kv_eq (by rw [x_measured]) ?_
      exact Kv_ite (Kv_c rfl (ih _ _ _)) (Kv_no _)
    | 5 =>
      refine Kv_eq (by rw [x_measured]) ?_
      exact Kv_ite (Kv_c rfl (ih _ _ _)) (Kv_no _)
    | 6 =>
      refine Kv_eq (by rw [x_measured]) ?_
      exact Kv_ob (Kv_c rfl (kv_checked _ _ _ _)) (fun _ h60 => Kv_so h60)
    | b + 7 =>
      refine Kv_eq (by rw [x_measured]) (Kv_no _)
theorem kv_setOf : ∀ (k b : Nat) (L : Nat → Int32) (σ : MS), Kv (x_setOf k b L σ) (kv σ) := by
  intro k
  induction k with
  | zero => intro b L σ; exact Kv_no _
  | succ k ih =>
    intro b L σ
    match b with
    | 0 =>
      refine Kv_eq (by rw [x_setOf]) ?_
      exact Kv_ob (Kv_c rfl (kv_distinct _ _ _ _)) (fun _ h61 => Kv_c h61 (ih _ _ _))
    | 1 =>
      refine Kv_eq (by rw [x_setOf]) ?_
      exact Kv_ob (Kv_c rfl (kv_make _ _ _ _)) (fun _ h62 => Kv_ite (Kv_c h62 (ih _ _ _)) (Kv_so h62))
    | 2 =>
      refine Kv_eq (by rw [x_setOf]) ?_
      exact Kv_c rfl (ih _ _ _)
    | 3 =>
      refine Kv_eq (by rw [x_setOf]) ?_
      exact Kv_ite (Kv_c rfl (ih _ _ _)) (Kv_ite (Kv_ite (Kv_c rfl (ih _ _ _)) (Kv_no _)) (Kv_no _))
    | 4 =>
      refine Kv_eq (by rw [x_setOf]) ?_
      exact Kv_c rfl (ih _ _ _)
    | 5 =>
      refine Kv_eq (by rw [x_setOf]) ?_
      exact Kv_ob (Kv_c rfl (kv_measured _ _ _ _)) (fun _ h63 => Kv_so h63)
    | b + 6 =>
      refine Kv_eq (by rw [x_setOf]) (Kv_no _)
theorem kv_side : ∀ (k b : Nat) (L : Nat → Int32) (σ : MS), Kv (x_side k b L σ) (kv σ) := by
  intro k
  induction k with
  | zero => intro b L σ; exact Kv_no _
  | succ k ih =>
    intro b L σ
    match b with
    | 0 =>
      refine Kv_eq (by rw [x_side]) ?_
      exact Kv_ob (Kv_c rfl (kv_isMap _ _ _ _)) (fun _ h64 => Kv_ite (Kv_ob (Kv_c h64 (kv_wrongKind _ _ _ _)) (fun _ h65 => Kv_so h65)) (Kv_c h64 (ih _ _ _)))
    | 1 =>
      refine Kv_eq (by rw [x_side]) ?_
      exact Kv_c rfl (ih _ _ _)
    | 2 =>
      refine Kv_eq (by rw [x_side]) ?_
      exact Kv_ite (Kv_ite (Kv_c rfl (ih _ _ _)) (Kv_ite (Kv_ite (Kv_ob (Kv_c rfl (kv_push _ _ _ _)) (fun _ h66 => Kv_c h66 (ih _ _ _))) (Kv_no _)) (Kv_no _))) (Kv_no _)
    | 3 =>
      refine Kv_eq (by rw [x_side]) ?_
      exact Kv_c rfl (ih _ _ _)
    | 4 =>
      refine Kv_eq (by rw [x_side]) ?_
      exact Kv_ite (Kv_c rfl (ih _ _ _)) (Kv_ite (Kv_ite (Kv_ite (Kv_c rfl (ih _ _ _)) (Kv_c rfl (ih _ _ _))) (Kv_no _)) (Kv_c rfl (ih _ _ _)))
    | 5 =>
      refine Kv_eq (by rw [x_side]) ?_
      exact Kv_c rfl (ih _ _ _)
    | 6 =>
      refine Kv_eq (by rw [x_side]) ?_
      exact Kv_c rfl (ih _ _ _)
    | 7 =>
      refine Kv_eq (by rw [x_side]) ?_
      exact Kv_c rfl (ih _ _ _)
    | 8 =>
      refine Kv_eq (by rw [x_side]) ?_
      exact Kv_ite (Kv_c rfl (ih _ _ _)) (Kv_c rfl (ih _ _ _))
    | 9 =>
      refine Kv_eq (by rw [x_side]) ?_
      exact Kv_ob (Kv_c rfl (kv_fail _ _ _ _)) (fun _ h67 => Kv_so h67)
    | 10 =>
      refine Kv_eq (by rw [x_side]) ?_
      exact Kv_ob (Kv_c rfl (kv_setOf _ _ _ _)) (fun _ h68 => Kv_so h68)
    | b + 11 =>
      refine Kv_eq (by rw [x_side]) (Kv_no _)
theorem kv_powerSet : ∀ (k b : Nat) (L : Nat → Int32) (σ : MS), Kv (x_powerSet k b L σ) (kv σ) := by
  intro k
  induction k with
  | zero => intro b L σ; exact Kv_no _
  | succ k ih =>
    intro b L σ
    match b with
    | 0 =>
      refine Kv_eq (by rw [x_powerSet]) ?_
      exact Kv_ob (Kv_c rfl (kv_kind _ _ _ _)) (fun _ h69 => Kv_ite (Kv_c h69 (ih _ _ _)) (Kv_ob (Kv_c h69 (kv_wrongKind _ _ _ _)) (fun _ h70 => Kv_so h70)))
    | 1 =>
      refine Kv_eq (by rw [x_powerSet]) ?_
      exact Kv_ite (Kv_ite (Kv_c rfl (ih _ _ _)) (Kv_ob (Kv_c rfl (kv_fail _ _ _ _)) (fun _ h71 => Kv_so h71))) (Kv_no _)
    | 2 =>
      refine Kv_eq (by rw [x_powerSet]) ?_
      exact Kv_c rfl (ih _ _ _)
    | 3 =>
      refine Kv_eq (by rw [x_powerSet]) ?_
      exact Kv_ite (Kv_c rfl (ih _ _ _)) (Kv_ite (Kv_c rfl (ih _ _ _)) (Kv_c rfl (ih _ _ _)))
    | 4 =>
      refine Kv_eq (by rw [x_powerSet]) ?_
      exact Kv_ite (Kv_c rfl (ih _ _ _)) (Kv_ite (Kv_ite (Kv_ob (Kv_c rfl (kv_push _ _ _ _)) (fun _ h72 => Kv_c h72 (ih _ _ _))) (Kv_no _)) (Kv_c rfl (ih _ _ _)))
    | 5 =>
      refine Kv_eq (by rw [x_powerSet]) ?_
      exact Kv_c rfl (ih _ _ _)
    | 6 =>
      refine Kv_eq (by rw [x_powerSet]) ?_
      exact Kv_ob (Kv_c rfl (kv_setOf _ _ _ _)) (fun _ h73 => Kv_ob (Kv_c h73 (kv_push _ _ _ _)) (fun _ h74 => Kv_c h74 (ih _ _ _)))
    | 7 =>
      refine Kv_eq (by rw [x_powerSet]) ?_
      exact Kv_ite (Kv_ob (Kv_c rfl (kv_setOf _ _ _ _)) (fun _ h75 => Kv_c h75 (ih _ _ _))) (Kv_c rfl (ih _ _ _))
    | 8 =>
      refine Kv_eq (by rw [x_powerSet]) ?_
      exact Kv_c rfl (ih _ _ _)
    | 9 =>
      refine Kv_eq (by rw [x_powerSet]) ?_
      exact Kv_so rfl
    | b + 10 =>
      refine Kv_eq (by rw [x_powerSet]) (Kv_no _)
theorem kv_put : ∀ (k b : Nat) (L : Nat → Int32) (σ : MS), Kv (x_put k b L σ) (kv σ) := by
  intro k
  induction k with
  | zero => intro b L σ; exact Kv_no _
  | succ k ih =>
    intro b L σ
    match b with
    | 0 =>
      refine Kv_eq (by rw [x_put]) ?_
      exact Kv_ite (Kv_c rfl (ih _ _ _)) (Kv_no _)
    | 1 =>
      refine Kv_eq (by rw [x_put]) ?_
      exact Kv_so rfl
    | b + 2 =>
      refine Kv_eq (by rw [x_put]) (Kv_no _)
theorem kv_putWord : ∀ (k b : Nat) (L : Nat → Int32) (σ : MS), Kv (x_putWord k b L σ) (kv σ) := by
  intro k
  induction k with
  | zero => intro b L σ; exact Kv_no _
  | succ k ih =>
    intro b L σ
    match b with
    | 0 =>
      refine Kv_eq (by rw [x_putWord]) ?_
      exact Kv_c rfl (ih _ _ _)
    | 1 =>
      refine Kv_eq (by rw [x_putWord]) ?_
      exact Kv_ite (Kv_c rfl (ih _ _ _)) (Kv_ite (Kv_ite (Kv_c rfl (ih _ _ _)) (Kv_c rfl (ih _ _ _))) (Kv_no _))
    | 2 =>
      refine Kv_eq (by rw [x_putWord]) ?_
      exact Kv_c rfl (ih _ _ _)
    | 3 =>
      refine Kv_eq (by rw [x_putWord]) ?_
      exact Kv_c rfl (ih _ _ _)
    | 4 =>
      refine Kv_eq (by rw [x_putWord]) ?_
      exact Kv_ite (Kv_ite (Kv_c rfl (ih _ _ _)) (Kv_ite (Kv_ob (Kv_c rfl (kv_put _ _ _ _)) (fun _ h76 => Kv_c h76 (ih _ _ _))) (Kv_no _))) (Kv_no _)
    | 5 =>
      refine Kv_eq (by rw [x_putWord]) ?_
      exact Kv_so rfl
    | b + 6 =>
      refine Kv_eq (by rw [x_putWord]) (Kv_no _)
theorem kv_stringOf__48 : ∀ (k b : Nat) (L : Nat → Int32) (σ : MS), Kv (x_stringOf__48 k b L σ) (kv σ) := by
  intro k
  induction k with
  | zero => intro b L σ; exact Kv_no _
  | succ k ih =>
    intro b L σ
    match b with
    | 0 =>
      refine Kv_eq (by rw [x_stringOf__48]) ?_
      exact Kv_ite (Kv_no _) (Kv_ite (Kv_c rfl (ih _ _ _)) (Kv_ob (Kv_c rfl (kv_fail _ _ _ _)) (fun _ h77 => Kv_so h77)))
    | 1 =>
      refine Kv_eq (by rw [x_stringOf__48]) ?_
      exact Kv_ob (Kv_c rfl (kv_make _ _ _ _)) (fun _ h78 => Kv_c h78 (ih _ _ _))
    | 2 =>
      refine Kv_eq (by rw [x_stringOf__48]) ?_
      exact Kv_ite (Kv_c rfl (ih _ _ _)) (Kv_ite (Kv_ite (Kv_ite (Kv_c rfl (ih _ _ _)) (Kv_no _)) (Kv_no _)) (Kv_c rfl (ih _ _ _)))
    | 3 =>
      refine Kv_eq (by rw [x_stringOf__48]) ?_
      exact Kv_c rfl (ih _ _ _)
    | 4 =>
      refine Kv_eq (by rw [x_stringOf__48]) ?_
      exact Kv_ite (Kv_no _) (Kv_ite (Kv_c rfl (ih _ _ _)) (Kv_no _))
    | 5 =>
      refine Kv_eq (by rw [x_stringOf__48]) ?_
      exact Kv_so rfl
    | b + 6 =>
      refine Kv_eq (by rw [x_stringOf__48]) (Kv_no _)
theorem kv_typeOf : ∀ (k b : Nat) (L : Nat → Int32) (σ : MS), Kv (x_typeOf k b L σ) (kv σ) := by
  intro k
  induction k with
  | zero => intro b L σ; exact Kv_no _
  | succ k ih =>
    intro b L σ
    match b with
    | 0 =>
      refine Kv_eq (by rw [x_typeOf]) ?_
      exact Kv_c rfl (ih _ _ _)
    | 1 =>
      refine Kv_eq (by rw [x_typeOf]) ?_
      exact Kv_ob (Kv_c rfl (kv_kind _ _ _ _)) (fun _ h79 => Kv_ob (Kv_c h79 (kv_putWord _ _ _ _)) (fun _ h80 => Kv_ob (Kv_c h80 (kv_stringOf__48 _ _ _ _)) (fun _ h81 => Kv_so h81)))
    | b + 2 =>
      refine Kv_eq (by rw [x_typeOf]) (Kv_no _)
theorem kv_putTruth : ∀ (k b : Nat) (L : Nat → Int32) (σ : MS), Kv (x_putTruth k b L σ) (kv σ) := by
  intro k
  induction k with
  | zero => intro b L σ; exact Kv_no _
  | succ k ih =>
    intro b L σ
    match b with
    | 0 =>
      refine Kv_eq (by rw [x_putTruth]) ?_
      exact Kv_ite (Kv_c rfl (ih _ _ _)) (Kv_c rfl (ih _ _ _))
    | 1 =>
      refine Kv_eq (by rw [x_putTruth]) ?_
      exact Kv_c rfl (ih _ _ _)
    | 2 =>
      refine Kv_eq (by rw [x_putTruth]) ?_
      exact Kv_ob (Kv_c rfl (kv_put _ _ _ _)) (fun _ h82 => Kv_ite (Kv_c h82 (ih _ _ _)) (Kv_c h82 (ih _ _ _)))
    | 3 =>
      refine Kv_eq (by rw [x_putTruth]) ?_
      exact Kv_c rfl (ih _ _ _)
    | 4 =>
      refine Kv_eq (by rw [x_putTruth]) ?_
      exact Kv_ob (Kv_c rfl (kv_put _ _ _ _)) (fun _ h83 => Kv_ite (Kv_c h83 (ih _ _ _)) (Kv_c h83 (ih _ _ _)))
    | 5 =>
      refine Kv_eq (by rw [x_putTruth]) ?_
      exact Kv_c rfl (ih _ _ _)
    | 6 =>
      refine Kv_eq (by rw [x_putTruth]) ?_
      exact Kv_ob (Kv_c rfl (kv_put _ _ _ _)) (fun _ h84 => Kv_ite (Kv_c h84 (ih _ _ _)) (Kv_c h84 (ih _ _ _)))
    | 7 =>
      refine Kv_eq (by rw [x_putTruth]) ?_
      exact Kv_c rfl (ih _ _ _)
    | 8 =>
      refine Kv_eq (by rw [x_putTruth]) ?_
      exact Kv_ob (Kv_c rfl (kv_put _ _ _ _)) (fun _ h85 => Kv_ite (Kv_ob (Kv_c h85 (kv_put _ _ _ _)) (fun _ h86 => Kv_c h86 (ih _ _ _))) (Kv_c h85 (ih _ _ _)))
    | 9 =>
      refine Kv_eq (by rw [x_putTruth]) ?_
      exact Kv_so rfl
    | b + 10 =>
      refine Kv_eq (by rw [x_putTruth]) (Kv_no _)
theorem kv_putWhole : ∀ (k b : Nat) (L : Nat → Int32) (σ : MS), Kv (x_putWhole k b L σ) (kv σ) := by
  intro k
  induction k with
  | zero => intro b L σ; exact Kv_no _
  | succ k ih =>
    intro b L σ
    match b with
    | 0 =>
      refine Kv_eq (by rw [x_putWhole]) ?_
      exact Kv_ob (Kv_c rfl (kv_loadA _ _ _ _)) (fun _ h87 => Kv_ite (Kv_ite (Kv_c h87 (ih _ _ _)) (Kv_no _)) (Kv_c h87 (ih _ _ _)))
    | 1 =>
      refine Kv_eq (by rw [x_putWhole]) ?_
      exact Kv_c rfl (ih _ _ _)
    | 2 =>
      refine Kv_eq (by rw [x_putWhole]) ?_
      exact Kv_ite (Kv_c rfl (ih _ _ _)) (Kv_c rfl (ih _ _ _))
    | 3 =>
      refine Kv_eq (by rw [x_putWhole]) ?_
      exact Kv_ite (Kv_c rfl (ih _ _ _)) (Kv_ite (Kv_ite (Kv_no _) (Kv_ite (Kv_c rfl (ih _ _ _)) (Kv_no _))) (Kv_no _))
    | 4 =>
      refine Kv_eq (by rw [x_putWhole]) ?_
      exact Kv_ite (Kv_no _) (Kv_c rfl (ih _ _ _))
    | 5 =>
      refine Kv_eq (by rw [x_putWhole]) ?_
      exact Kv_ite (Kv_c rfl (ih _ _ _)) (Kv_no _)
    | 6 =>
      refine Kv_eq (by rw [x_putWhole]) ?_
      exact Kv_c rfl (ih _ _ _)
    | 7 =>
      refine Kv_eq (by rw [x_putWhole]) ?_
      exact Kv_ite (Kv_c rfl (ih _ _ _)) (Kv_ite (Kv_ite (Kv_c rfl (ih _ _ _)) (Kv_c rfl (ih _ _ _))) (Kv_no _))
    | 8 =>
      refine Kv_eq (by rw [x_putWhole]) ?_
      exact Kv_c rfl (ih _ _ _)
    | 9 =>
      refine Kv_eq (by rw [x_putWhole]) ?_
      exact Kv_ob (Kv_c rfl (kv_signOf _ _ _ _)) (fun _ h88 => Kv_ite (Kv_c h88 (ih _ _ _)) (Kv_ob (Kv_c h88 (kv_put _ _ _ _)) (fun _ h89 => Kv_c h89 (ih _ _ _))))
    | 10 =>
      refine Kv_eq (by rw [x_putWhole]) ?_
      exact Kv_c rfl (ih _ _ _)
    | 11 =>
      refine Kv_eq (by rw [x_putWhole]) ?_
      exact Kv_ite (Kv_c rfl (ih _ _ _)) (Kv_ite (Kv_ob (Kv_c rfl (kv_put _ _ _ _)) (fun _ h90 => Kv_c h90 (ih _ _ _))) (Kv_no _))
    | 12 =>
      refine Kv_eq (by rw [x_putWhole]) ?_
      exact Kv_so rfl
    | b + 13 =>
      refine Kv_eq (by rw [x_putWhole]) (Kv_no _)
theorem kv_s_putNumber {X : Nat → Nat → Nat → (Nat → Int32) → MS → Option (Int32 × MS)} (hX : ∀ e m b L (σ : MS), Kv (X e m b L σ) (kv σ)) (k d b : Nat) (L : Nat → Int32) (σ : MS) : Kv (s_putNumber X k d b L σ) (kv σ) := by
  match b with
  | 0 => exact Kv_ite (Kv_c rfl (hX _ _ _ _ _)) (Kv_od (fun _ => Kv_ob (Kv_c rfl (hX _ _ _ _ _)) (fun _ h91 => Kv_c h91 (hX _ _ _ _ _))))
  | 1 => exact Kv_ob (Kv_c rfl (kv_put _ _ _ _)) (fun _ h92 => Kv_so h92)
  | b + 2 => exact Kv_no _
theorem kv_GN : ∀ (k d m b : Nat) (L : Nat → Int32) (σ : MS), Kv (x_GN k d m b L σ) (kv σ) := by
  intro k
  induction k with
  | zero => intro d m b L σ; exact Kv_no _
  | succ k ih =>
    intro d m b L σ
    match m with
    | 0 => exact kv_s_putNumber ih k d b L σ
    | m + 1 => exact Kv_no _
theorem kv_putNumber (k b : Nat) (L : Nat → Int32) (σ : MS) : Kv (x_putNumber k b L σ) (kv σ) := kv_GN k 12 0 b L σ
theorem kv_s_print {X : Nat → Nat → Nat → (Nat → Int32) → MS → Option (Int32 × MS)} (hX : ∀ e m b L (σ : MS), Kv (X e m b L σ) (kv σ)) (k d b : Nat) (L : Nat → Int32) (σ : MS) : Kv (s_print X k d b L σ) (kv σ) := by
  match b with
  | 0 => exact Kv_ob (Kv_c rfl (kv_kind _ _ _ _)) (fun _ h93 => Kv_ite (Kv_ob (Kv_c h93 (kv_put _ _ _ _)) (fun _ h94 => Kv_ob (Kv_c h94 (kv_put _ _ _ _)) (fun _ h95 => Kv_c h95 (hX _ _ _ _ _)))) (Kv_c h93 (hX _ _ _ _ _)))
  | 1 => exact Kv_ite (Kv_ite (Kv_c rfl (hX _ _ _ _ _)) (Kv_c rfl (hX _ _ _ _ _))) (Kv_c rfl (hX _ _ _ _ _))
  | 2 => exact Kv_c rfl (hX _ _ _ _ _)
  | 3 => exact Kv_ob (Kv_c rfl (kv_putTruth _ _ _ _)) (fun _ h96 => Kv_c h96 (hX _ _ _ _ _))
  | 4 => exact Kv_ite (Kv_ob (Kv_c rfl (kv_putWhole _ _ _ _)) (fun _ h97 => Kv_c h97 (hX _ _ _ _ _))) (Kv_c rfl (hX _ _ _ _ _))
  | 5 => exact Kv_ite (Kv_ob (Kv_c rfl (kv_put _ _ _ _)) (fun _ h98 => Kv_ite (Kv_ob (Kv_c h98 (kv_putNumber _ _ _ _)) (fun _ h99 => Kv_c h99 (hX _ _ _ _ _))) (Kv_no _))) (Kv_c rfl (hX _ _ _ _ _))
  | 6 => exact Kv_ite (Kv_ite (Kv_ob (Kv_c rfl (kv_put _ _ _ _)) (fun _ h100 => Kv_c h100 (hX _ _ _ _ _))) (Kv_c rfl (hX _ _ _ _ _))) (Kv_c rfl (hX _ _ _ _ _))
  | 7 => exact Kv_c rfl (hX _ _ _ _ _)
  | 8 => exact Kv_ite (Kv_ite (Kv_c rfl (hX _ _ _ _ _)) (Kv_ite (Kv_ob (Kv_c rfl (kv_put _ _ _ _)) (fun _ h101 => Kv_c h101 (hX _ _ _ _ _))) (Kv_no _))) (Kv_no _)
  | 9 => exact Kv_ite (Kv_ob (Kv_c rfl (kv_put _ _ _ _)) (fun _ h102 => Kv_c h102 (hX _ _ _ _ _))) (Kv_c rfl (hX _ _ _ _ _))
  | 10 => exact Kv_ite (Kv_c rfl (hX _ _ _ _ _)) (Kv_c rfl (hX _ _ _ _ _))
  | 11 => exact Kv_c rfl (hX _ _ _ _ _)
  | 12 => exact Kv_ob (Kv_c rfl (kv_put _ _ _ _)) (fun _ h103 => Kv_c h103 (hX _ _ _ _ _))
  | 13 => exact Kv_ite (Kv_ite (Kv_c rfl (hX _ _ _ _ _)) (Kv_ite (Kv_c rfl (hX _ _ _ _ _)) (Kv_ob (Kv_c rfl (kv_put _ _ _ _)) (fun _ h104 => Kv_ob (Kv_c h104 (kv_put _ _ _ _)) (fun _ h105 => Kv_c h105 (hX _ _ _ _ _)))))) (Kv_no _)
  | 14 => exact Kv_ite (Kv_od (fun _ => Kv_ob (Kv_c rfl (hX _ _ _ _ _)) (fun _ h106 => Kv_c h106 (hX _ _ _ _ _)))) (Kv_no _)
  | 15 => exact Kv_ite (Kv_c rfl (hX _ _ _ _ _)) (Kv_c rfl (hX _ _ _ _ _))
  | 16 => exact Kv_c rfl (hX _ _ _ _ _)
  | 17 => exact Kv_ob (Kv_c rfl (kv_put _ _ _ _)) (fun _ h107 => Kv_c h107 (hX _ _ _ _ _))
  | 18 => exact Kv_so rfl
  | b + 19 => exact Kv_no _
theorem kv_GP : ∀ (k d m b : Nat) (L : Nat → Int32) (σ : MS), Kv (x_GP k d m b L σ) (kv σ) := by
  intro k
  induction k with
  | zero => intro d m b L σ; exact Kv_no _
  | succ k ih =>
    intro d m b L σ
    match m with
    | 0 => exact kv_s_print ih k d b L σ
    | m + 1 => exact Kv_no _
theorem kv_print (k b : Nat) (L : Nat → Int32) (σ : MS) : Kv (x_print k b L σ) (kv σ) := kv_GP k 40 0 b L σ
theorem kv_intOf : ∀ (k b : Nat) (L : Nat → Int32) (J : Nat → Int64) (σ : MS), Kv (x_intOf k b L J σ) (kv σ) := by
  intro k
  induction k with
  | zero => intro b L J σ; exact Kv_no _
  | succ k ih =>
    intro b L J σ
    match b with
    | 0 =>
      refine Kv_eq (by rw [x_intOf]) ?_
      exact Kv_ite (Kv_c rfl (ih _ _ _ _)) (Kv_no _)
    | 1 =>
      refine Kv_eq (by rw [x_intOf]) ?_
      exact Kv_ite (Kv_c rfl (ih _ _ _ _)) (Kv_ite (Kv_c rfl (ih _ _ _ _)) (Kv_c rfl (ih _ _ _ _)))
    | 2 =>
      refine Kv_eq (by rw [x_intOf]) ?_
      exact Kv_ite (Kv_c rfl (ih _ _ _ _)) (Kv_no _)
    | 3 =>
      refine Kv_eq (by rw [x_intOf]) ?_
      exact Kv_c rfl (ih _ _ _ _)
    | 4 =>
      refine Kv_eq (by rw [x_intOf]) ?_
      exact Kv_ite (Kv_c rfl (ih _ _ _ _)) (Kv_c rfl (ih _ _ _ _))
    | 5 =>
      refine Kv_eq (by rw [x_intOf]) ?_
      exact Kv_c rfl (ih _ _ _ _)
    | 6 =>
      refine Kv_eq (by rw [x_intOf]) ?_
      exact Kv_ob (Kv_c rfl (kv_signOf _ _ _ _)) (fun _ h108 => Kv_ite (Kv_c h108 (ih _ _ _ _)) (Kv_c h108 (ih _ _ _ _)))
    | 7 =>
      refine Kv_eq (by rw [x_intOf]) ?_
      exact Kv_c rfl (ih _ _ _ _)
    | 8 =>
      refine Kv_eq (by rw [x_intOf]) ?_
      exact Kv_so rfl
    | b + 9 =>
      refine Kv_eq (by rw [x_intOf]) (Kv_no _)
theorem kv_byteString : ∀ (k b : Nat) (L : Nat → Int32) (σ : MS), Kv (x_byteString k b L σ) (kv σ) := by
  intro k
  induction k with
  | zero => intro b L σ; exact Kv_no _
  | succ k ih =>
    intro b L σ
    match b with
    | 0 =>
      refine Kv_eq (by rw [x_byteString]) ?_
      exact Kv_ob (Kv_c rfl (kv_make _ _ _ _)) (fun _ h109 => Kv_ite (Kv_c h109 (ih _ _ _)) (Kv_so h109))
    | 1 =>
      refine Kv_eq (by rw [x_byteString]) ?_
      exact Kv_ite (Kv_c rfl (ih _ _ _)) (Kv_no _)
    | 2 =>
      refine Kv_eq (by rw [x_byteString]) ?_
      exact Kv_ite (Kv_c rfl (ih _ _ _)) (Kv_no _)
    | 3 =>
      refine Kv_eq (by rw [x_byteString]) ?_
      exact Kv_so rfl
    | b + 4 =>
      refine Kv_eq (by rw [x_byteString]) (Kv_no _)
theorem kv_character : ∀ (k b : Nat) (L : Nat → Int32) (σ : MS), Kv (x_character k b L σ) (kv σ) := by
  intro k
  induction k with
  | zero => intro b L σ; exact Kv_no _
  | succ k ih =>
    intro b L σ
    match b with
    | 0 =>
      refine Kv_eq (by rw [x_character]) ?_
      exact Kv_ob (Kv_c rfl (kv_kind _ _ _ _)) (fun _ h110 => Kv_ite (Kv_c h110 (ih _ _ _)) (Kv_ob (Kv_c h110 (kv_wrongKind _ _ _ _)) (fun _ h111 => Kv_so h111)))
    | 1 =>
      refine Kv_eq (by rw [x_character]) ?_
      exact Kv_ob (Kv_c rfl (kv_intOf _ _ _ _ _)) (fun _ h112 => Kv_ite (Kv_c h112 (ih _ _ _)) (Kv_ite (Kv_c h112 (ih _ _ _)) (Kv_c h112 (ih _ _ _))))
    | 2 =>
      refine Kv_eq (by rw [x_character]) ?_
      exact Kv_ob (Kv_c rfl (kv_fail _ _ _ _)) (fun _ h113 => Kv_so h113)
    | 3 =>
      refine Kv_eq (by rw [x_character]) ?_
      exact Kv_ob (Kv_c rfl (kv_byteString _ _ _ _)) (fun _ h114 => Kv_so h114)
    | b + 4 =>
      refine Kv_eq (by rw [x_character]) (Kv_no _)
theorem kv_small : ∀ (k b : Nat) (L : Nat → Int32) (σ : MS), Kv (x_small k b L σ) (kv σ) := by
  intro k
  induction k with
  | zero => intro b L σ; exact Kv_no _
  | succ k ih =>
    intro b L σ
    match b with
    | 0 =>
      refine Kv_eq (by rw [x_small]) ?_
      exact Kv_c rfl (ih _ _ _)
    | 1 =>
      refine Kv_eq (by rw [x_small]) ?_
      exact Kv_ite (Kv_c rfl (ih _ _ _)) (Kv_c rfl (ih _ _ _))
    | 2 =>
      refine Kv_eq (by rw [x_small]) ?_
      exact Kv_c rfl (ih _ _ _)
    | 3 =>
      refine Kv_eq (by rw [x_small]) ?_
      exact Kv_c rfl (ih _ _ _)
    | 4 =>
      refine Kv_eq (by rw [x_small]) ?_
      exact Kv_ite (Kv_c rfl (ih _ _ _)) (Kv_ite (Kv_c rfl (ih _ _ _)) (Kv_no _))
    | 5 =>
      refine Kv_eq (by rw [x_small]) ?_
      exact Kv_c rfl (ih _ _ _)
    | 6 =>
      refine Kv_eq (by rw [x_small]) ?_
      exact Kv_ite (Kv_c rfl (ih _ _ _)) (Kv_c rfl (ih _ _ _))
    | 7 =>
      refine Kv_eq (by rw [x_small]) ?_
      exact Kv_c rfl (ih _ _ _)
    | 8 =>
      refine Kv_eq (by rw [x_small]) ?_
      exact Kv_ob (Kv_c rfl (kv_wholeOf _ _ _ _)) (fun _ h115 => Kv_so h115)
    | b + 9 =>
      refine Kv_eq (by rw [x_small]) (Kv_no _)
theorem kv_codeOf : ∀ (k b : Nat) (L : Nat → Int32) (σ : MS), Kv (x_codeOf k b L σ) (kv σ) := by
  intro k
  induction k with
  | zero => intro b L σ; exact Kv_no _
  | succ k ih =>
    intro b L σ
    match b with
    | 0 =>
      refine Kv_eq (by rw [x_codeOf]) ?_
      exact Kv_ob (Kv_c rfl (kv_kind _ _ _ _)) (fun _ h116 => Kv_ite (Kv_c h116 (ih _ _ _)) (Kv_ob (Kv_c h116 (kv_wrongKind _ _ _ _)) (fun _ h117 => Kv_so h117)))
    | 1 =>
      refine Kv_eq (by rw [x_codeOf]) ?_
      exact Kv_ite (Kv_ite (Kv_c rfl (ih _ _ _)) (Kv_ob (Kv_c rfl (kv_fail _ _ _ _)) (fun _ h118 => Kv_so h118))) (Kv_no _)
    | 2 =>
      refine Kv_eq (by rw [x_codeOf]) ?_
      exact Kv_ite (Kv_ob (Kv_c rfl (kv_small _ _ _ _)) (fun _ h119 => Kv_so h119)) (Kv_no _)
    | b + 3 =>
      refine Kv_eq (by rw [x_codeOf]) (Kv_no _)
theorem kv_stringOf__51 : ∀ (k b : Nat) (L : Nat → Int32) (σ : MS), Kv (x_stringOf__51 k b L σ) (kv σ) := by
  intro k
  induction k with
  | zero => intro b L σ; exact Kv_no _
  | succ k ih =>
    intro b L σ
    match b with
    | 0 =>
      refine Kv_eq (by rw [x_stringOf__51]) ?_
      exact Kv_ite (Kv_no _) (Kv_ite (Kv_c rfl (ih _ _ _)) (Kv_ob (Kv_c rfl (kv_fail _ _ _ _)) (fun _ h120 => Kv_so h120)))
    | 1 =>
      refine Kv_eq (by rw [x_stringOf__51]) ?_
      exact Kv_ob (Kv_c rfl (kv_make _ _ _ _)) (fun _ h121 => Kv_c h121 (ih _ _ _))
    | 2 =>
      refine Kv_eq (by rw [x_stringOf__51]) ?_
      exact Kv_ite (Kv_c rfl (ih _ _ _)) (Kv_ite (Kv_ite (Kv_ite (Kv_c rfl (ih _ _ _)) (Kv_no _)) (Kv_no _)) (Kv_c rfl (ih _ _ _)))
    | 3 =>
      refine Kv_eq (by rw [x_stringOf__51]) ?_
      exact Kv_c rfl (ih _ _ _)
    | 4 =>
      refine Kv_eq (by rw [x_stringOf__51]) ?_
      exact Kv_ite (Kv_no _) (Kv_ite (Kv_c rfl (ih _ _ _)) (Kv_no _))
    | 5 =>
      refine Kv_eq (by rw [x_stringOf__51]) ?_
      exact Kv_so rfl
    | b + 6 =>
      refine Kv_eq (by rw [x_stringOf__51]) (Kv_no _)
theorem kv_tupleOf : ∀ (k b : Nat) (L : Nat → Int32) (σ : MS), Kv (x_tupleOf k b L σ) (kv σ) := by
  intro k
  induction k with
  | zero => intro b L σ; exact Kv_no _
  | succ k ih =>
    intro b L σ
    match b with
    | 0 =>
      refine Kv_eq (by rw [x_tupleOf]) ?_
      exact Kv_c rfl (ih _ _ _)
    | 1 =>
      refine Kv_eq (by rw [x_tupleOf]) ?_
      exact Kv_ite (Kv_c rfl (ih _ _ _)) (Kv_ite (Kv_ite (Kv_c rfl (ih _ _ _)) (Kv_c rfl (ih _ _ _))) (Kv_no _))
    | 2 =>
      refine Kv_eq (by rw [x_tupleOf]) ?_
      exact Kv_c rfl (ih _ _ _)
    | 3 =>
      refine Kv_eq (by rw [x_tupleOf]) ?_
      exact Kv_ob (Kv_c rfl (kv_make _ _ _ _)) (fun _ h122 => Kv_ite (Kv_c h122 (ih _ _ _)) (Kv_so h122))
    | 4 =>
      refine Kv_eq (by rw [x_tupleOf]) ?_
      exact Kv_c rfl (ih _ _ _)
    | 5 =>
      refine Kv_eq (by rw [x_tupleOf]) ?_
      exact Kv_ite (Kv_c rfl (ih _ _ _)) (Kv_ite (Kv_ite (Kv_c rfl (ih _ _ _)) (Kv_no _)) (Kv_no _))
    | 6 =>
      refine Kv_eq (by rw [x_tupleOf]) ?_
      exact Kv_c rfl (ih _ _ _)
    | 7 =>
      refine Kv_eq (by rw [x_tupleOf]) ?_
      exact Kv_ob (Kv_c rfl (kv_measured _ _ _ _)) (fun _ h123 => Kv_so h123)
    | b + 8 =>
      refine Kv_eq (by rw [x_tupleOf]) (Kv_no _)
theorem kv_reversed : ∀ (k b : Nat) (L : Nat → Int32) (σ : MS), Kv (x_reversed k b L σ) (kv σ) := by
  intro k
  induction k with
  | zero => intro b L σ; exact Kv_no _
  | succ k ih =>
    intro b L σ
    match b with
    | 0 =>
      refine Kv_eq (by rw [x_reversed]) ?_
      exact Kv_ob (Kv_c rfl (kv_kind _ _ _ _)) (fun _ h124 => Kv_ite (Kv_c h124 (ih _ _ _)) (Kv_ite (Kv_c h124 (ih _ _ _)) (Kv_ob (Kv_c h124 (kv_wrongKind _ _ _ _)) (fun _ h125 => Kv_so h125))))
    | 1 =>
      refine Kv_eq (by rw [x_reversed]) ?_
      exact Kv_ite (Kv_ite (Kv_c rfl (ih _ _ _)) (Kv_c rfl (ih _ _ _))) (Kv_no _)
    | 2 =>
      refine Kv_eq (by rw [x_reversed]) ?_
      exact Kv_ite (Kv_c rfl (ih _ _ _)) (Kv_ite (Kv_ite (Kv_c rfl (ih _ _ _)) (Kv_no _)) (Kv_no _))
    | 3 =>
      refine Kv_eq (by rw [x_reversed]) ?_
      exact Kv_c rfl (ih _ _ _)
    | 4 =>
      refine Kv_eq (by rw [x_reversed]) ?_
      exact Kv_ob (Kv_c rfl (kv_stringOf__51 _ _ _ _)) (fun _ h126 => Kv_so h126)
    | 5 =>
      refine Kv_eq (by rw [x_reversed]) ?_
      exact Kv_c rfl (ih _ _ _)
    | 6 =>
      refine Kv_eq (by rw [x_reversed]) ?_
      exact Kv_ite (Kv_c rfl (ih _ _ _)) (Kv_ite (Kv_ob (Kv_c rfl (kv_push _ _ _ _)) (fun _ h127 => Kv_c h127 (ih _ _ _))) (Kv_no _))
    | 7 =>
      refine Kv_eq (by rw [x_reversed]) ?_
      exact Kv_ob (Kv_c rfl (kv_tupleOf _ _ _ _)) (fun _ h128 => Kv_so h128)
    | b + 8 =>
      refine Kv_eq (by rw [x_reversed]) (Kv_no _)
theorem kv_draw : ∀ (k b : Nat) (L : Nat → Int32) (σ : MS), Kv (x_draw k b L σ) (kv σ) := by
  intro k
  induction k with
  | zero => intro b L σ; exact Kv_no _
  | succ k ih =>
    intro b L σ
    match b with
    | 0 =>
      refine Kv_eq (by rw [x_draw]) ?_
      exact Kv_c rfl (ih _ _ _)
    | 1 =>
      refine Kv_eq (by rw [x_draw]) ?_
      exact Kv_ite (Kv_no _) (Kv_so rfl)
    | b + 2 =>
      refine Kv_eq (by rw [x_draw]) (Kv_no _)
theorem kv_memberAt : ∀ (k b : Nat) (L : Nat → Int32) (σ : MS), Kv (x_memberAt k b L σ) (kv σ) := by
  intro k
  induction k with
  | zero => intro b L σ; exact Kv_no _
  | succ k ih =>
    intro b L σ
    match b with
    | 0 =>
      refine Kv_eq (by rw [x_memberAt]) ?_
      exact Kv_ite (Kv_ite (Kv_ite (Kv_ob (Kv_c rfl (kv_byteString _ _ _ _)) (fun _ h129 => Kv_c h129 (ih _ _ _))) (Kv_no _)) (Kv_c rfl (ih _ _ _))) (Kv_no _)
    | 1 =>
      refine Kv_eq (by rw [x_memberAt]) ?_
      exact Kv_ite (Kv_c rfl (ih _ _ _)) (Kv_no _)
    | 2 =>
      refine Kv_eq (by rw [x_memberAt]) ?_
      exact Kv_so rfl
    | b + 3 =>
      refine Kv_eq (by rw [x_memberAt]) (Kv_no _)
theorem kv_drawn : ∀ (k b : Nat) (L : Nat → Int32) (σ : MS), Kv (x_drawn k b L σ) (kv σ) := by
  intro k
  induction k with
  | zero => intro b L σ; exact Kv_no _
  | succ k ih =>
    intro b L σ
    match b with
    | 0 =>
      refine Kv_eq (by rw [x_drawn]) ?_
      exact Kv_ob (Kv_c rfl (kv_kind _ _ _ _)) (fun _ h130 => Kv_ite (Kv_ite (Kv_ite (Kv_c h130 (ih _ _ _)) (Kv_c h130 (ih _ _ _))) (Kv_no _)) (Kv_c h130 (ih _ _ _)))
    | 1 =>
      refine Kv_eq (by rw [x_drawn]) ?_
      exact Kv_ob (Kv_c rfl (kv_intOf _ _ _ _ _)) (fun _ h131 => Kv_c h131 (ih _ _ _))
    | 2 =>
      refine Kv_eq (by rw [x_drawn]) ?_
      exact Kv_ite (Kv_ite (Kv_ob (Kv_c rfl (kv_signOf _ _ _ _)) (fun _ h132 => Kv_ite (Kv_c h132 (ih _ _ _)) (Kv_ite (Kv_ite (Kv_ite (Kv_ite (Kv_c h132 (ih _ _ _)) (Kv_c h132 (ih _ _ _))) (Kv_no _)) (Kv_c h132 (ih _ _ _))) (Kv_no _)))) (Kv_c rfl (ih _ _ _))) (Kv_no _)
    | 3 =>
      refine Kv_eq (by rw [x_drawn]) ?_
      exact Kv_c rfl (ih _ _ _)
    | 4 =>
      refine Kv_eq (by rw [x_drawn]) ?_
      exact Kv_ite (Kv_c rfl (ih _ _ _)) (Kv_ite (Kv_ite (Kv_c rfl (ih _ _ _)) (Kv_c rfl (ih _ _ _))) (Kv_c rfl (ih _ _ _)))
    | 5 =>
      refine Kv_eq (by rw [x_drawn]) ?_
      exact Kv_ob (Kv_c rfl (kv_fail _ _ _ _)) (fun _ h133 => Kv_so h133)
    | 6 =>
      refine Kv_eq (by rw [x_drawn]) ?_
      exact Kv_ite (Kv_c rfl (ih _ _ _)) (Kv_c rfl (ih _ _ _))
    | 7 =>
      refine Kv_eq (by rw [x_drawn]) ?_
      exact Kv_c rfl (ih _ _ _)
    | 8 =>
      refine Kv_eq (by rw [x_drawn]) ?_
      exact Kv_ob (Kv_c rfl (kv_draw _ _ _ _)) (fun _ h134 => Kv_ob (Kv_c h134 (kv_small _ _ _ _)) (fun _ h135 => Kv_so h135))
    | 9 =>
      refine Kv_eq (by rw [x_drawn]) ?_
      exact Kv_ite (Kv_c rfl (ih _ _ _)) (Kv_ob (Kv_c rfl (kv_wrongKind _ _ _ _)) (fun _ h136 => Kv_so h136))
    | 10 =>
      refine Kv_eq (by rw [x_drawn]) ?_
      exact Kv_ite (Kv_ite (Kv_c rfl (ih _ _ _)) (Kv_c rfl (ih _ _ _))) (Kv_no _)
    | 11 =>
      refine Kv_eq (by rw [x_drawn]) ?_
      exact Kv_ite (Kv_ob (Kv_c rfl (kv_draw _ _ _ _)) (fun _ h137 => Kv_ob (Kv_c h137 (kv_memberAt _ _ _ _)) (fun _ h138 => Kv_c h138 (ih _ _ _)))) (Kv_no _)
    | 12 =>
      refine Kv_eq (by rw [x_drawn]) ?_
      exact Kv_so rfl
    | b + 13 =>
      refine Kv_eq (by rw [x_drawn]) (Kv_no _)
theorem kv_function : ∀ (k b : Nat) (L : Nat → Int32) (σ : MS), Kv (x_function k b L σ) (kv σ) := by
  intro k
  induction k with
  | zero => intro b L σ; exact Kv_no _
  | succ k ih =>
    intro b L σ
    match b with
    | 0 =>
      refine Kv_eq (by rw [x_function]) ?_
      exact Kv_ob (Kv_c rfl (kv_kind _ _ _ _)) (fun _ h139 => Kv_ite (Kv_c h139 (ih _ _ _)) (Kv_ite (Kv_c h139 (ih _ _ _)) (Kv_ite (Kv_c h139 (ih _ _ _)) (Kv_ite (Kv_c h139 (ih _ _ _)) (Kv_ite (Kv_c h139 (ih _ _ _)) (Kv_ite (Kv_c h139 (ih _ _ _)) (Kv_ite (Kv_c h139 (ih _ _ _)) (Kv_ite (Kv_c h139 (ih _ _ _)) (Kv_ite (Kv_c h139 (ih _ _ _)) (Kv_ite (Kv_c h139 (ih _ _ _)) (Kv_ite (Kv_c h139 (ih _ _ _)) (Kv_ite (Kv_c h139 (ih _ _ _)) (Kv_c h139 (ih _ _ _))))))))))))))
    | 1 =>
      refine Kv_eq (by rw [x_function]) ?_
      exact Kv_ite (Kv_c rfl (ih _ _ _)) (Kv_ob (Kv_c rfl (kv_wrongKind _ _ _ _)) (fun _ h140 => Kv_c h140 (ih _ _ _)))
    | 2 =>
      refine Kv_eq (by rw [x_function]) ?_
      exact Kv_ob (Kv_c rfl (kv_signOf _ _ _ _)) (fun _ h141 => Kv_ite (Kv_c h141 (ih _ _ _)) (Kv_ob (Kv_c h141 (kv_other _ _ _ _)) (fun _ h142 => Kv_c h142 (ih _ _ _))))
    | 3 =>
      refine Kv_eq (by rw [x_function]) ?_
      exact Kv_c rfl (ih _ _ _)
    | 4 =>
      refine Kv_eq (by rw [x_function]) ?_
      exact Kv_so rfl
    | 5 =>
      refine Kv_eq (by rw [x_function]) ?_
      exact Kv_ite (Kv_c rfl (ih _ _ _)) (Kv_ob (Kv_c rfl (kv_wrongKind _ _ _ _)) (fun _ h143 => Kv_c h143 (ih _ _ _)))
    | 6 =>
      refine Kv_eq (by rw [x_function]) ?_
      exact Kv_ite (Kv_ite (Kv_c rfl (ih _ _ _)) (Kv_c rfl (ih _ _ _))) (Kv_no _)
    | 7 =>
      refine Kv_eq (by rw [x_function]) ?_
      exact Kv_ite (Kv_c rfl (ih _ _ _)) (Kv_no _)
    | 8 =>
      refine Kv_eq (by rw [x_function]) ?_
      exact Kv_so rfl
    | 9 =>
      refine Kv_eq (by rw [x_function]) ?_
      exact Kv_ob (Kv_c rfl (kv_side _ _ _ _)) (fun _ h144 => Kv_so h144)
    | 10 =>
      refine Kv_eq (by rw [x_function]) ?_
      exact Kv_ob (Kv_c rfl (kv_side _ _ _ _)) (fun _ h145 => Kv_so h145)
    | 11 =>
      refine Kv_eq (by rw [x_function]) ?_
      exact Kv_ob (Kv_c rfl (kv_powerSet _ _ _ _)) (fun _ h146 => Kv_so h146)
    | 12 =>
      refine Kv_eq (by rw [x_function]) ?_
      exact Kv_ob (Kv_c rfl (kv_typeOf _ _ _ _)) (fun _ h147 => Kv_so h147)
    | 13 =>
      refine Kv_eq (by rw [x_function]) ?_
      exact Kv_c rfl (ih _ _ _)
    | 14 =>
      refine Kv_eq (by rw [x_function]) ?_
      exact Kv_ob (Kv_c rfl (kv_print _ _ _ _)) (fun _ h148 => Kv_ob (Kv_c h148 (kv_stringOf__48 _ _ _ _)) (fun _ h149 => Kv_so h149))
    | 15 =>
      refine Kv_eq (by rw [x_function]) ?_
      exact Kv_ob (Kv_c rfl (kv_character _ _ _ _)) (fun _ h150 => Kv_so h150)
    | 16 =>
      refine Kv_eq (by rw [x_function]) ?_
      exact Kv_ob (Kv_c rfl (kv_codeOf _ _ _ _)) (fun _ h151 => Kv_so h151)
    | 17 =>
      refine Kv_eq (by rw [x_function]) ?_
      exact Kv_ob (Kv_c rfl (kv_reversed _ _ _ _)) (fun _ h152 => Kv_so h152)
    | 18 =>
      refine Kv_eq (by rw [x_function]) ?_
      exact Kv_ob (Kv_c rfl (kv_drawn _ _ _ _)) (fun _ h153 => Kv_so h153)
    | b + 19 =>
      refine Kv_eq (by rw [x_function]) (Kv_no _)
theorem kv_negative : ∀ (k b : Nat) (L : Nat → Int32) (σ : MS), Kv (x_negative k b L σ) (kv σ) := by
  intro k
  induction k with
  | zero => intro b L σ; exact Kv_no _
  | succ k ih =>
    intro b L σ
    match b with
    | 0 =>
      refine Kv_eq (by rw [x_negative]) ?_
      exact Kv_ob (Kv_c rfl (kv_kind _ _ _ _)) (fun _ h154 => Kv_ite (Kv_c h154 (ih _ _ _)) (Kv_ob (Kv_c h154 (kv_wrongKind _ _ _ _)) (fun _ h155 => Kv_c h155 (ih _ _ _))))
    | 1 =>
      refine Kv_eq (by rw [x_negative]) ?_
      exact Kv_ob (Kv_c rfl (kv_other _ _ _ _)) (fun _ h156 => Kv_c h156 (ih _ _ _))
    | 2 =>
      refine Kv_eq (by rw [x_negative]) ?_
      exact Kv_so rfl
    | b + 3 =>
      refine Kv_eq (by rw [x_negative]) (Kv_no _)
theorem kv_many : ∀ (k b : Nat) (L : Nat → Int32) (σ : MS), Kv (x_many k b L σ) (kv σ) := by
  intro k
  induction k with
  | zero => intro b L σ; exact Kv_no _
  | succ k ih =>
    intro b L σ
    match b with
    | 0 =>
      refine Kv_eq (by rw [x_many]) ?_
      exact Kv_ob (Kv_c rfl (kv_kind _ _ _ _)) (fun _ h157 => Kv_ite (Kv_c h157 (ih _ _ _)) (Kv_ob (Kv_c h157 (kv_fail _ _ _ _)) (fun _ h158 => Kv_so h158)))
    | 1 =>
      refine Kv_eq (by rw [x_many]) ?_
      exact Kv_ite (Kv_ob (Kv_c rfl (kv_small _ _ _ _)) (fun _ h159 => Kv_so h159)) (Kv_no _)
    | b + 2 =>
      refine Kv_eq (by rw [x_many]) (Kv_no _)
theorem kv_truth : ∀ (k b : Nat) (L : Nat → Int32) (σ : MS), Kv (x_truth k b L σ) (kv σ) := by
  intro k
  induction k with
  | zero => intro b L σ; exact Kv_no _
  | succ k ih =>
    intro b L σ
    match b with
    | 0 =>
      refine Kv_eq (by rw [x_truth]) ?_
      exact Kv_ite (Kv_c rfl (ih _ _ _)) (Kv_c rfl (ih _ _ _))
    | 1 =>
      refine Kv_eq (by rw [x_truth]) ?_
      exact Kv_c rfl (ih _ _ _)
    | 2 =>
      refine Kv_eq (by rw [x_truth]) ?_
      exact Kv_so rfl
    | b + 3 =>
      refine Kv_eq (by rw [x_truth]) (Kv_no _)
theorem kv_turned : ∀ (k b : Nat) (L : Nat → Int32) (σ : MS), Kv (x_turned k b L σ) (kv σ) := by
  intro k
  induction k with
  | zero => intro b L σ; exact Kv_no _
  | succ k ih =>
    intro b L σ
    match b with
    | 0 =>
      refine Kv_eq (by rw [x_turned]) ?_
      exact Kv_ite (Kv_c rfl (ih _ _ _)) (Kv_ite (Kv_c rfl (ih _ _ _)) (Kv_ob (Kv_c rfl (kv_fail _ _ _ _)) (fun _ h160 => Kv_c h160 (ih _ _ _))))
    | 1 =>
      refine Kv_eq (by rw [x_turned]) ?_
      exact Kv_ite (Kv_c rfl (ih _ _ _)) (Kv_c rfl (ih _ _ _))
    | 2 =>
      refine Kv_eq (by rw [x_turned]) ?_
      exact Kv_c rfl (ih _ _ _)
    | 3 =>
      refine Kv_eq (by rw [x_turned]) ?_
      exact Kv_ob (Kv_c rfl (kv_truth _ _ _ _)) (fun _ h161 => Kv_so h161)
    | b + 4 =>
      refine Kv_eq (by rw [x_turned]) (Kv_no _)
theorem kv_loadB : ∀ (k b : Nat) (L : Nat → Int32) (σ : MS), Kv (x_loadB k b L σ) (kv σ) := by
  intro k
  induction k with
  | zero => intro b L σ; exact Kv_no _
  | succ k ih =>
    intro b L σ
    match b with
    | 0 =>
      refine Kv_eq (by rw [x_loadB]) ?_
      exact Kv_ite (Kv_c rfl (ih _ _ _)) (Kv_no _)
    | 1 =>
      refine Kv_eq (by rw [x_loadB]) ?_
      exact Kv_c rfl (ih _ _ _)
    | 2 =>
      refine Kv_eq (by rw [x_loadB]) ?_
      exact Kv_ite (Kv_c rfl (ih _ _ _)) (Kv_ite (Kv_ite (Kv_c rfl (ih _ _ _)) (Kv_no _)) (Kv_no _))
    | 3 =>
      refine Kv_eq (by rw [x_loadB]) ?_
      exact Kv_c rfl (ih _ _ _)
    | 4 =>
      refine Kv_eq (by rw [x_loadB]) ?_
      exact Kv_so rfl
    | b + 5 =>
      refine Kv_eq (by rw [x_loadB]) (Kv_no _)
theorem kv_compareRows__42__43 : ∀ (k b : Nat) (L : Nat → Int32) (σ : MS), Kv (x_compareRows__42__43 k b L σ) (kv σ) := by
  intro k
  induction k with
  | zero => intro b L σ; exact Kv_no _
  | succ k ih =>
    intro b L σ
    match b with
    | 0 =>
      refine Kv_eq (by rw [x_compareRows__42__43]) ?_
      exact Kv_c rfl (ih _ _ _)
    | 1 =>
      refine Kv_eq (by rw [x_compareRows__42__43]) ?_
      exact Kv_ite (Kv_c rfl (ih _ _ _)) (Kv_ite (Kv_ite (Kv_ite (Kv_c rfl (ih _ _ _)) (Kv_no _)) (Kv_no _)) (Kv_c rfl (ih _ _ _)))
    | 2 =>
      refine Kv_eq (by rw [x_compareRows__42__43]) ?_
      exact Kv_so rfl
    | b + 3 =>
      refine Kv_eq (by rw [x_compareRows__42__43]) (Kv_no _)
theorem kv_add : ∀ (k b : Nat) (L : Nat → Int32) (σ : MS), Kv (x_add k b L σ) (kv σ) := by
  intro k
  induction k with
  | zero => intro b L σ; exact Kv_no _
  | succ k ih =>
    intro b L σ
    match b with
    | 0 =>
      refine Kv_eq (by rw [x_add]) ?_
      exact Kv_ob (Kv_c rfl (kv_loadA _ _ _ _)) (fun _ h162 => Kv_ob (Kv_c h162 (kv_loadB _ _ _ _)) (fun _ h163 => Kv_ob (Kv_c h163 (kv_signOf _ _ _ _)) (fun _ h164 => Kv_ob (Kv_c h164 (kv_signOf _ _ _ _)) (fun _ h165 => Kv_ite (Kv_c h165 (ih _ _ _)) (Kv_ite (Kv_c h165 (ih _ _ _)) (Kv_ite (Kv_c h165 (ih _ _ _)) (Kv_c h165 (ih _ _ _))))))))
    | 1 =>
      refine Kv_eq (by rw [x_add]) ?_
      exact Kv_ite (Kv_c rfl (ih _ _ _)) (Kv_c rfl (ih _ _ _))
    | 2 =>
      refine Kv_eq (by rw [x_add]) ?_
      exact Kv_c rfl (ih _ _ _)
    | 3 =>
      refine Kv_eq (by rw [x_add]) ?_
      exact Kv_c rfl (ih _ _ _)
    | 4 =>
      refine Kv_eq (by rw [x_add]) ?_
      exact Kv_c rfl (ih _ _ _)
    | 5 =>
      refine Kv_eq (by rw [x_add]) ?_
      exact Kv_ite (Kv_c rfl (ih _ _ _)) (Kv_ite (Kv_c rfl (ih _ _ _)) (Kv_ite (Kv_c rfl (ih _ _ _)) (Kv_no _)))
    | 6 =>
      refine Kv_eq (by rw [x_add]) ?_
      exact Kv_c rfl (ih _ _ _)
    | 7 =>
      refine Kv_eq (by rw [x_add]) ?_
      exact Kv_ite (Kv_c rfl (ih _ _ _)) (Kv_ite (Kv_c rfl (ih _ _ _)) (Kv_no _))
    | 8 =>
      refine Kv_eq (by rw [x_add]) ?_
      exact Kv_c rfl (ih _ _ _)
    | 9 =>
      refine Kv_eq (by rw [x_add]) ?_
      exact Kv_ite (Kv_c rfl (ih _ _ _)) (Kv_no _)
    | 10 =>
      refine Kv_eq (by rw [x_add]) ?_
      exact Kv_c rfl (ih _ _ _)
    | 11 =>
      refine Kv_eq (by rw [x_add]) ?_
      exact Kv_ite (Kv_c rfl (ih _ _ _)) (Kv_ite (Kv_c rfl (ih _ _ _)) (Kv_no _))
    | 12 =>
      refine Kv_eq (by rw [x_add]) ?_
      exact Kv_c rfl (ih _ _ _)
    | 13 =>
      refine Kv_eq (by rw [x_add]) ?_
      exact Kv_ite (Kv_c rfl (ih _ _ _)) (Kv_c rfl (ih _ _ _))
    | 14 =>
      refine Kv_eq (by rw [x_add]) ?_
      exact Kv_c rfl (ih _ _ _)
    | 15 =>
      refine Kv_eq (by rw [x_add]) ?_
      exact Kv_ob (Kv_c rfl (kv_wholeOf _ _ _ _)) (fun _ h166 => Kv_so h166)
    | 16 =>
      refine Kv_eq (by rw [x_add]) ?_
      exact Kv_ob (Kv_c rfl (kv_compareRows__42__43 _ _ _ _)) (fun _ h167 => Kv_ite (Kv_c h167 (ih _ _ _)) (Kv_c h167 (ih _ _ _)))
    | 17 =>
      refine Kv_eq (by rw [x_add]) ?_
      exact Kv_c rfl (ih _ _ _)
    | 18 =>
      refine Kv_eq (by rw [x_add]) ?_
      exact Kv_c rfl (ih _ _ _)
    | 19 =>
      refine Kv_eq (by rw [x_add]) ?_
      exact Kv_c rfl (ih _ _ _)
    | 20 =>
      refine Kv_eq (by rw [x_add]) ?_
      exact Kv_ite (Kv_c rfl (ih _ _ _)) (Kv_ite (Kv_c rfl (ih _ _ _)) (Kv_ite (Kv_c rfl (ih _ _ _)) (Kv_no _)))
    | 21 =>
      refine Kv_eq (by rw [x_add]) ?_
      exact Kv_c rfl (ih _ _ _)
    | 22 =>
      refine Kv_eq (by rw [x_add]) ?_
      exact Kv_ite (Kv_c rfl (ih _ _ _)) (Kv_ite (Kv_c rfl (ih _ _ _)) (Kv_no _))
    | 23 =>
      refine Kv_eq (by rw [x_add]) ?_
      exact Kv_c rfl (ih _ _ _)
    | 24 =>
      refine Kv_eq (by rw [x_add]) ?_
      exact Kv_ite (Kv_c rfl (ih _ _ _)) (Kv_c rfl (ih _ _ _))
    | 25 =>
      refine Kv_eq (by rw [x_add]) ?_
      exact Kv_c rfl (ih _ _ _)
    | 26 =>
      refine Kv_eq (by rw [x_add]) ?_
      exact Kv_ite (Kv_c rfl (ih _ _ _)) (Kv_c rfl (ih _ _ _))
    | 27 =>
      refine Kv_eq (by rw [x_add]) ?_
      exact Kv_c rfl (ih _ _ _)
    | 28 =>
      refine Kv_eq (by rw [x_add]) ?_
      exact Kv_ite (Kv_c rfl (ih _ _ _)) (Kv_no _)
    | 29 =>
      refine Kv_eq (by rw [x_add]) ?_
      exact Kv_c rfl (ih _ _ _)
    | 30 =>
      refine Kv_eq (by rw [x_add]) ?_
      exact Kv_ite (Kv_c rfl (ih _ _ _)) (Kv_c rfl (ih _ _ _))
    | 31 =>
      refine Kv_eq (by rw [x_add]) ?_
      exact Kv_c rfl (ih _ _ _)
    | 32 =>
      refine Kv_eq (by rw [x_add]) ?_
      exact Kv_ob (Kv_c rfl (kv_wholeOf _ _ _ _)) (fun _ h168 => Kv_so h168)
    | b + 33 =>
      refine Kv_eq (by rw [x_add]) (Kv_no _)
theorem kv_joined : ∀ (k b : Nat) (L : Nat → Int32) (σ : MS), Kv (x_joined k b L σ) (kv σ) := by
  intro k
  induction k with
  | zero => intro b L σ; exact Kv_no _
  | succ k ih =>
    intro b L σ
    match b with
    | 0 =>
      refine Kv_eq (by rw [x_joined]) ?_
      exact Kv_ite (Kv_ite (Kv_c rfl (ih _ _ _)) (Kv_no _)) (Kv_no _)
    | 1 =>
      refine Kv_eq (by rw [x_joined]) ?_
      exact Kv_ite (Kv_c rfl (ih _ _ _)) (Kv_ite (Kv_ite (Kv_c rfl (ih _ _ _)) (Kv_no _)) (Kv_no _))
    | 2 =>
      refine Kv_eq (by rw [x_joined]) ?_
      exact Kv_c rfl (ih _ _ _)
    | 3 =>
      refine Kv_eq (by rw [x_joined]) ?_
      exact Kv_c rfl (ih _ _ _)
    | 4 =>
      refine Kv_eq (by rw [x_joined]) ?_
      exact Kv_ite (Kv_c rfl (ih _ _ _)) (Kv_ite (Kv_ite (Kv_c rfl (ih _ _ _)) (Kv_no _)) (Kv_no _))
    | 5 =>
      refine Kv_eq (by rw [x_joined]) ?_
      exact Kv_c rfl (ih _ _ _)
    | 6 =>
      refine Kv_eq (by rw [x_joined]) ?_
      exact Kv_ob (Kv_c rfl (kv_stringOf__51 _ _ _ _)) (fun _ h169 => Kv_so h169)
    | b + 7 =>
      refine Kv_eq (by rw [x_joined]) (Kv_no _)
theorem kv_plus : ∀ (k b : Nat) (L : Nat → Int32) (σ : MS), Kv (x_plus k b L σ) (kv σ) := by
  intro k
  induction k with
  | zero => intro b L σ; exact Kv_no _
  | succ k ih =>
    intro b L σ
    match b with
    | 0 =>
      refine Kv_eq (by rw [x_plus]) ?_
      exact Kv_ob (Kv_c rfl (kv_kind _ _ _ _)) (fun _ h170 => Kv_ob (Kv_c h170 (kv_kind _ _ _ _)) (fun _ h171 => Kv_ite (Kv_ite (Kv_c h171 (ih _ _ _)) (Kv_ite (Kv_c h171 (ih _ _ _)) (Kv_c h171 (ih _ _ _)))) (Kv_c h171 (ih _ _ _))))
    | 1 =>
      refine Kv_eq (by rw [x_plus]) ?_
      exact Kv_ob (Kv_c rfl (kv_wrongKind _ _ _ _)) (fun _ h172 => Kv_so h172)
    | 2 =>
      refine Kv_eq (by rw [x_plus]) ?_
      exact Kv_ite (Kv_ob (Kv_c rfl (kv_add _ _ _ _)) (fun _ h173 => Kv_so h173)) (Kv_c rfl (ih _ _ _))
    | 3 =>
      refine Kv_eq (by rw [x_plus]) ?_
      exact Kv_ite (Kv_ob (Kv_c rfl (kv_joined _ _ _ _)) (fun _ h174 => Kv_so h174)) (Kv_c rfl (ih _ _ _))
    | 4 =>
      refine Kv_eq (by rw [x_plus]) ?_
      exact Kv_c rfl (ih _ _ _)
    | 5 =>
      refine Kv_eq (by rw [x_plus]) ?_
      exact Kv_ite (Kv_ite (Kv_c rfl (ih _ _ _)) (Kv_ite (Kv_ob (Kv_c rfl (kv_push _ _ _ _)) (fun _ h175 => Kv_c h175 (ih _ _ _))) (Kv_no _))) (Kv_no _)
    | 6 =>
      refine Kv_eq (by rw [x_plus]) ?_
      exact Kv_c rfl (ih _ _ _)
    | 7 =>
      refine Kv_eq (by rw [x_plus]) ?_
      exact Kv_ite (Kv_ite (Kv_c rfl (ih _ _ _)) (Kv_ite (Kv_ob (Kv_c rfl (kv_push _ _ _ _)) (fun _ h176 => Kv_c h176 (ih _ _ _))) (Kv_no _))) (Kv_no _)
    | 8 =>
      refine Kv_eq (by rw [x_plus]) ?_
      exact Kv_ite (Kv_ob (Kv_c rfl (kv_setOf _ _ _ _)) (fun _ h177 => Kv_c h177 (ih _ _ _))) (Kv_c rfl (ih _ _ _))
    | 9 =>
      refine Kv_eq (by rw [x_plus]) ?_
      exact Kv_ob (Kv_c rfl (kv_tupleOf _ _ _ _)) (fun _ h178 => Kv_c h178 (ih _ _ _))
    | 10 =>
      refine Kv_eq (by rw [x_plus]) ?_
      exact Kv_so rfl
    | b + 11 =>
      refine Kv_eq (by rw [x_plus]) (Kv_no _)
theorem kv_has : ∀ (k b : Nat) (L : Nat → Int32) (σ : MS), Kv (x_has k b L σ) (kv σ) := by
  intro k
  induction k with
  | zero => intro b L σ; exact Kv_no _
  | succ k ih =>
    intro b L σ
    match b with
    | 0 =>
      refine Kv_eq (by rw [x_has]) ?_
      exact Kv_ite (Kv_c rfl (ih _ _ _)) (Kv_no _)
    | 1 =>
      refine Kv_eq (by rw [x_has]) ?_
      exact Kv_ite (Kv_c rfl (ih _ _ _)) (Kv_ite (Kv_no _) (Kv_ite (Kv_ob (Kv_c rfl (kv_compare _ _ _ _)) (fun _ h179 => Kv_ite (Kv_so h179) (Kv_c h179 (ih _ _ _)))) (Kv_no _)))
    | 2 =>
      refine Kv_eq (by rw [x_has]) ?_
      exact Kv_ite (Kv_c rfl (ih _ _ _)) (Kv_c rfl (ih _ _ _))
    | 3 =>
      refine Kv_eq (by rw [x_has]) ?_
      exact Kv_c rfl (ih _ _ _)
    | 4 =>
      refine Kv_eq (by rw [x_has]) ?_
      exact Kv_ite (Kv_c rfl (ih _ _ _)) (Kv_c rfl (ih _ _ _))
    | 5 =>
      refine Kv_eq (by rw [x_has]) ?_
      exact Kv_c rfl (ih _ _ _)
    | 6 =>
      refine Kv_eq (by rw [x_has]) ?_
      exact Kv_c rfl (ih _ _ _)
    | 7 =>
      refine Kv_eq (by rw [x_has]) ?_
      exact Kv_so rfl
    | b + 8 =>
      refine Kv_eq (by rw [x_has]) (Kv_no _)
theorem kv_sift : ∀ (k b : Nat) (L : Nat → Int32) (σ : MS), Kv (x_sift k b L σ) (kv σ) := by
  intro k
  induction k with
  | zero => intro b L σ; exact Kv_no _
  | succ k ih =>
    intro b L σ
    match b with
    | 0 =>
      refine Kv_eq (by rw [x_sift]) ?_
      exact Kv_c rfl (ih _ _ _)
    | 1 =>
      refine Kv_eq (by rw [x_sift]) ?_
      exact Kv_ite (Kv_ite (Kv_c rfl (ih _ _ _)) (Kv_ite (Kv_ob (Kv_c rfl (kv_has _ _ _ _)) (fun _ h180 => Kv_ite (Kv_ite (Kv_ob (Kv_c h180 (kv_push _ _ _ _)) (fun _ h181 => Kv_c h181 (ih _ _ _))) (Kv_no _)) (Kv_c h180 (ih _ _ _)))) (Kv_no _))) (Kv_no _)
    | 2 =>
      refine Kv_eq (by rw [x_sift]) ?_
      exact Kv_c rfl (ih _ _ _)
    | 3 =>
      refine Kv_eq (by rw [x_sift]) ?_
      exact Kv_ob (Kv_c rfl (kv_setOf _ _ _ _)) (fun _ h182 => Kv_so h182)
    | b + 4 =>
      refine Kv_eq (by rw [x_sift]) (Kv_no _)
theorem kv_multiply : ∀ (k b : Nat) (L : Nat → Int32) (J : Nat → Int64) (σ : MS), Kv (x_multiply k b L J σ) (kv σ) := by
  intro k
  induction k with
  | zero => intro b L J σ; exact Kv_no _
  | succ k ih =>
    intro b L J σ
    match b with
    | 0 =>
      refine Kv_eq (by rw [x_multiply]) ?_
      exact Kv_ob (Kv_c rfl (kv_loadA _ _ _ _)) (fun _ h183 => Kv_ob (Kv_c h183 (kv_loadB _ _ _ _)) (fun _ h184 => Kv_c h184 (ih _ _ _ _)))
    | 1 =>
      refine Kv_eq (by rw [x_multiply]) ?_
      exact Kv_c rfl (ih _ _ _ _)
    | 2 =>
      refine Kv_eq (by rw [x_multiply]) ?_
      exact Kv_ite (Kv_c rfl (ih _ _ _ _)) (Kv_ite (Kv_c rfl (ih _ _ _ _)) (Kv_no _))
    | 3 =>
      refine Kv_eq (by rw [x_multiply]) ?_
      exact Kv_c rfl (ih _ _ _ _)
    | 4 =>
      refine Kv_eq (by rw [x_multiply]) ?_
      exact Kv_c rfl (ih _ _ _ _)
    | 5 =>
      refine Kv_eq (by rw [x_multiply]) ?_
      exact Kv_ite (Kv_c rfl (ih _ _ _ _)) (Kv_c rfl (ih _ _ _ _))
    | 6 =>
      refine Kv_eq (by rw [x_multiply]) ?_
      exact Kv_ite (Kv_c rfl (ih _ _ _ _)) (Kv_ite (Kv_ite (Kv_ite (Kv_ite (Kv_c rfl (ih _ _ _ _)) (Kv_no _)) (Kv_no _)) (Kv_no _)) (Kv_no _))
    | 7 =>
      refine Kv_eq (by rw [x_multiply]) ?_
      exact Kv_c rfl (ih _ _ _ _)
    | 8 =>
      refine Kv_eq (by rw [x_multiply]) ?_
      exact Kv_ite (Kv_c rfl (ih _ _ _ _)) (Kv_no _)
    | 9 =>
      refine Kv_eq (by rw [x_multiply]) ?_
      exact Kv_c rfl (ih _ _ _ _)
    | 10 =>
      refine Kv_eq (by rw [x_multiply]) ?_
      exact Kv_ob (Kv_c rfl (kv_signOf _ _ _ _)) (fun _ h185 => Kv_ob (Kv_c h185 (kv_signOf _ _ _ _)) (fun _ h186 => Kv_ob (Kv_c h186 (kv_wholeOf _ _ _ _)) (fun _ h187 => Kv_so h187)))
    | b + 11 =>
      refine Kv_eq (by rw [x_multiply]) (Kv_no _)
theorem kv_repeat : ∀ (k b : Nat) (L : Nat → Int32) (σ : MS), Kv (x_repeat k b L σ) (kv σ) := by
  intro k
  induction k with
  | zero => intro b L σ; exact Kv_no _
  | succ k ih =>
    intro b L σ
    match b with
    | 0 =>
      refine Kv_eq (by rw [x_repeat]) ?_
      exact Kv_ob (Kv_c rfl (kv_signOf _ _ _ _)) (fun _ h188 => Kv_ite (Kv_c h188 (ih _ _ _)) (Kv_ob (Kv_c h188 (kv_fail _ _ _ _)) (fun _ h189 => Kv_so h189)))
    | 1 =>
      refine Kv_eq (by rw [x_repeat]) ?_
      exact Kv_ite (Kv_ite (Kv_c rfl (ih _ _ _)) (Kv_c rfl (ih _ _ _))) (Kv_no _)
    | 2 =>
      refine Kv_eq (by rw [x_repeat]) ?_
      exact Kv_ob (Kv_c rfl (kv_intOf _ _ _ _ _)) (fun _ h190 => Kv_c h190 (ih _ _ _))
    | 3 =>
      refine Kv_eq (by rw [x_repeat]) ?_
      exact Kv_ite (Kv_c rfl (ih _ _ _)) (Kv_ob (Kv_c rfl (kv_fail _ _ _ _)) (fun _ h191 => Kv_so h191))
    | 4 =>
      refine Kv_eq (by rw [x_repeat]) ?_
      exact Kv_ite (Kv_ite (Kv_c rfl (ih _ _ _)) (Kv_c rfl (ih _ _ _))) (Kv_no _)
    | 5 =>
      refine Kv_eq (by rw [x_repeat]) ?_
      exact Kv_ite (Kv_c rfl (ih _ _ _)) (Kv_ite (Kv_no _) (Kv_ite (Kv_ite (Kv_c rfl (ih _ _ _)) (Kv_no _)) (Kv_no _)))
    | 6 =>
      refine Kv_eq (by rw [x_repeat]) ?_
      exact Kv_c rfl (ih _ _ _)
    | 7 =>
      refine Kv_eq (by rw [x_repeat]) ?_
      exact Kv_ob (Kv_c rfl (kv_stringOf__51 _ _ _ _)) (fun _ h192 => Kv_so h192)
    | 8 =>
      refine Kv_eq (by rw [x_repeat]) ?_
      exact Kv_c rfl (ih _ _ _)
    | 9 =>
      refine Kv_eq (by rw [x_repeat]) ?_
      exact Kv_ite (Kv_c rfl (ih _ _ _)) (Kv_ite (Kv_no _) (Kv_ite (Kv_ob (Kv_c rfl (kv_push _ _ _ _)) (fun _ h193 => Kv_c h193 (ih _ _ _))) (Kv_no _)))
    | 10 =>
      refine Kv_eq (by rw [x_repeat]) ?_
      exact Kv_ob (Kv_c rfl (kv_tupleOf _ _ _ _)) (fun _ h194 => Kv_so h194)
    | b + 11 =>
      refine Kv_eq (by rw [x_repeat]) (Kv_no _)
theorem kv_rowsTimes : ∀ (k b : Nat) (L : Nat → Int32) (J : Nat → Int64) (σ : MS), Kv (x_rowsTimes k b L J σ) (kv σ) := by
  intro k
  induction k with
  | zero => intro b L J σ; exact Kv_no _
  | succ k ih =>
    intro b L J σ
    match b with
    | 0 =>
      refine Kv_eq (by rw [x_rowsTimes]) ?_
      exact Kv_c rfl (ih _ _ _ _)
    | 1 =>
      refine Kv_eq (by rw [x_rowsTimes]) ?_
      exact Kv_c rfl (ih _ _ _ _)
    | 2 =>
      refine Kv_eq (by rw [x_rowsTimes]) ?_
      exact Kv_ite (Kv_c rfl (ih _ _ _ _)) (Kv_ite (Kv_c rfl (ih _ _ _ _)) (Kv_no _))
    | 3 =>
      refine Kv_eq (by rw [x_rowsTimes]) ?_
      exact Kv_c rfl (ih _ _ _ _)
    | 4 =>
      refine Kv_eq (by rw [x_rowsTimes]) ?_
      exact Kv_c rfl (ih _ _ _ _)
    | 5 =>
      refine Kv_eq (by rw [x_rowsTimes]) ?_
      exact Kv_ite (Kv_c rfl (ih _ _ _ _)) (Kv_c rfl (ih _ _ _ _))
    | 6 =>
      refine Kv_eq (by rw [x_rowsTimes]) ?_
      exact Kv_ite (Kv_c rfl (ih _ _ _ _)) (Kv_ite (Kv_ite (Kv_ite (Kv_ite (Kv_c rfl (ih _ _ _ _)) (Kv_no _)) (Kv_no _)) (Kv_no _)) (Kv_no _))
    | 7 =>
      refine Kv_eq (by rw [x_rowsTimes]) ?_
      exact Kv_c rfl (ih _ _ _ _)
    | 8 =>
      refine Kv_eq (by rw [x_rowsTimes]) ?_
      exact Kv_ite (Kv_c rfl (ih _ _ _ _)) (Kv_no _)
    | 9 =>
      refine Kv_eq (by rw [x_rowsTimes]) ?_
      exact Kv_c rfl (ih _ _ _ _)
    | 10 =>
      refine Kv_eq (by rw [x_rowsTimes]) ?_
      exact Kv_ite (Kv_c rfl (ih _ _ _ _)) (Kv_ite (Kv_ite (Kv_c rfl (ih _ _ _ _)) (Kv_c rfl (ih _ _ _ _))) (Kv_no _))
    | 11 =>
      refine Kv_eq (by rw [x_rowsTimes]) ?_
      exact Kv_so rfl
    | b + 12 =>
      refine Kv_eq (by rw [x_rowsTimes]) (Kv_no _)
theorem kv_raise : ∀ (k b : Nat) (L : Nat → Int32) (σ : MS), Kv (x_raise k b L σ) (kv σ) := by
  intro k
  induction k with
  | zero => intro b L σ; exact Kv_no _
  | succ k ih =>
    intro b L σ
    match b with
    | 0 =>
      refine Kv_eq (by rw [x_raise]) ?_
      exact Kv_ob (Kv_c rfl (kv_signOf _ _ _ _)) (fun _ h195 => Kv_ite (Kv_c h195 (ih _ _ _)) (Kv_ob (Kv_c h195 (kv_fail _ _ _ _)) (fun _ h196 => Kv_so h196)))
    | 1 =>
      refine Kv_eq (by rw [x_raise]) ?_
      exact Kv_ob (Kv_c rfl (kv_intOf _ _ _ _ _)) (fun _ h197 => Kv_ite (Kv_ob (Kv_c h197 (kv_small _ _ _ _)) (fun _ h198 => Kv_so h198)) (Kv_c h197 (ih _ _ _)))
    | 2 =>
      refine Kv_eq (by rw [x_raise]) ?_
      exact Kv_ite (Kv_ite (Kv_c rfl (ih _ _ _)) (Kv_ite (Kv_ite (Kv_c rfl (ih _ _ _)) (Kv_c rfl (ih _ _ _))) (Kv_no _))) (Kv_no _)
    | 3 =>
      refine Kv_eq (by rw [x_raise]) ?_
      exact Kv_c rfl (ih _ _ _)
    | 4 =>
      refine Kv_eq (by rw [x_raise]) ?_
      exact Kv_ite (Kv_ite (Kv_c rfl (ih _ _ _)) (Kv_ite (Kv_ite (Kv_ite (Kv_ite (Kv_c rfl (ih _ _ _)) (Kv_c rfl (ih _ _ _))) (Kv_no _)) (Kv_c rfl (ih _ _ _))) (Kv_no _))) (Kv_no _)
    | 5 =>
      refine Kv_eq (by rw [x_raise]) ?_
      exact Kv_ob (Kv_c rfl (kv_signOf _ _ _ _)) (fun _ h199 => Kv_ite (Kv_c h199 (ih _ _ _)) (Kv_ite (Kv_c h199 (ih _ _ _)) (Kv_c h199 (ih _ _ _))))
    | 6 =>
      refine Kv_eq (by rw [x_raise]) ?_
      exact Kv_c rfl (ih _ _ _)
    | 7 =>
      refine Kv_eq (by rw [x_raise]) ?_
      exact Kv_ob (Kv_c rfl (kv_small _ _ _ _)) (fun _ h200 => Kv_c h200 (ih _ _ _))
    | 8 =>
      refine Kv_eq (by rw [x_raise]) ?_
      exact Kv_so rfl
    | 9 =>
      refine Kv_eq (by rw [x_raise]) ?_
      exact Kv_ob (Kv_c rfl (kv_loadA _ _ _ _)) (fun _ h201 => Kv_c h201 (ih _ _ _))
    | 10 =>
      refine Kv_eq (by rw [x_raise]) ?_
      exact Kv_ite (Kv_c rfl (ih _ _ _)) (Kv_ite (Kv_ite (Kv_c rfl (ih _ _ _)) (Kv_no _)) (Kv_no _))
    | 11 =>
      refine Kv_eq (by rw [x_raise]) ?_
      exact Kv_c rfl (ih _ _ _)
    | 12 =>
      refine Kv_eq (by rw [x_raise]) ?_
      exact Kv_c rfl (ih _ _ _)
    | 13 =>
      refine Kv_eq (by rw [x_raise]) ?_
      exact Kv_ite (Kv_c rfl (ih _ _ _)) (Kv_ite (Kv_ob (Kv_c rfl (kv_rowsTimes _ _ _ _ _)) (fun _ h202 => Kv_ite (Kv_c h202 (ih _ _ _)) (Kv_ob (Kv_c h202 (kv_fail _ _ _ _)) (fun _ h203 => Kv_c h203 (ih _ _ _))))) (Kv_c rfl (ih _ _ _)))
    | 14 =>
      refine Kv_eq (by rw [x_raise]) ?_
      exact Kv_c rfl (ih _ _ _)
    | 15 =>
      refine Kv_eq (by rw [x_raise]) ?_
      exact Kv_ite (Kv_c rfl (ih _ _ _)) (Kv_ite (Kv_ite (Kv_c rfl (ih _ _ _)) (Kv_no _)) (Kv_no _))
    | 16 =>
      refine Kv_eq (by rw [x_raise]) ?_
      exact Kv_c rfl (ih _ _ _)
    | 17 =>
      refine Kv_eq (by rw [x_raise]) ?_
      exact Kv_c rfl (ih _ _ _)
    | 18 =>
      refine Kv_eq (by rw [x_raise]) ?_
      exact Kv_ite (Kv_c rfl (ih _ _ _)) (Kv_so rfl)
    | 19 =>
      refine Kv_eq (by rw [x_raise]) ?_
      exact Kv_c rfl (ih _ _ _)
    | 20 =>
      refine Kv_eq (by rw [x_raise]) ?_
      exact Kv_c rfl (ih _ _ _)
    | 21 =>
      refine Kv_eq (by rw [x_raise]) ?_
      exact Kv_ite (Kv_c rfl (ih _ _ _)) (Kv_ite (Kv_ite (Kv_c rfl (ih _ _ _)) (Kv_no _)) (Kv_no _))
    | 22 =>
      refine Kv_eq (by rw [x_raise]) ?_
      exact Kv_c rfl (ih _ _ _)
    | 23 =>
      refine Kv_eq (by rw [x_raise]) ?_
      exact Kv_ob (Kv_c rfl (kv_signOf _ _ _ _)) (fun _ h204 => Kv_ite (Kv_c h204 (ih _ _ _)) (Kv_ite (Kv_c h204 (ih _ _ _)) (Kv_c h204 (ih _ _ _))))
    | 24 =>
      refine Kv_eq (by rw [x_raise]) ?_
      exact Kv_c rfl (ih _ _ _)
    | 25 =>
      refine Kv_eq (by rw [x_raise]) ?_
      exact Kv_ob (Kv_c rfl (kv_wholeOf _ _ _ _)) (fun _ h205 => Kv_so h205)
    | b + 26 =>
      refine Kv_eq (by rw [x_raise]) (Kv_no _)
theorem kv_compareRows__46__43 : ∀ (k b : Nat) (L : Nat → Int32) (σ : MS), Kv (x_compareRows__46__43 k b L σ) (kv σ) := by
  intro k
  induction k with
  | zero => intro b L σ; exact Kv_no _
  | succ k ih =>
    intro b L σ
    match b with
    | 0 =>
      refine Kv_eq (by rw [x_compareRows__46__43]) ?_
      exact Kv_c rfl (ih _ _ _)
    | 1 =>
      refine Kv_eq (by rw [x_compareRows__46__43]) ?_
      exact Kv_ite (Kv_c rfl (ih _ _ _)) (Kv_ite (Kv_ite (Kv_ite (Kv_c rfl (ih _ _ _)) (Kv_no _)) (Kv_no _)) (Kv_c rfl (ih _ _ _)))
    | 2 =>
      refine Kv_eq (by rw [x_compareRows__46__43]) ?_
      exact Kv_so rfl
    | b + 3 =>
      refine Kv_eq (by rw [x_compareRows__46__43]) (Kv_no _)
theorem kv_divideRows : ∀ (k b : Nat) (L : Nat → Int32) (σ : MS), Kv (x_divideRows k b L σ) (kv σ) := by
  intro k
  induction k with
  | zero => intro b L σ; exact Kv_no _
  | succ k ih =>
    intro b L σ
    match b with
    | 0 =>
      refine Kv_eq (by rw [x_divideRows]) ?_
      exact Kv_c rfl (ih _ _ _)
    | 1 =>
      refine Kv_eq (by rw [x_divideRows]) ?_
      exact Kv_c rfl (ih _ _ _)
    | 2 =>
      refine Kv_eq (by rw [x_divideRows]) ?_
      exact Kv_c rfl (ih _ _ _)
    | 3 =>
      refine Kv_eq (by rw [x_divideRows]) ?_
      exact Kv_ite (Kv_c rfl (ih _ _ _)) (Kv_ite (Kv_c rfl (ih _ _ _)) (Kv_no _))
    | 4 =>
      refine Kv_eq (by rw [x_divideRows]) ?_
      exact Kv_c rfl (ih _ _ _)
    | 5 =>
      refine Kv_eq (by rw [x_divideRows]) ?_
      exact Kv_c rfl (ih _ _ _)
    | 6 =>
      refine Kv_eq (by rw [x_divideRows]) ?_
      exact Kv_ite (Kv_c rfl (ih _ _ _)) (Kv_ite (Kv_c rfl (ih _ _ _)) (Kv_no _))
    | 7 =>
      refine Kv_eq (by rw [x_divideRows]) ?_
      exact Kv_ite (Kv_c rfl (ih _ _ _)) (Kv_ite (Kv_ite (Kv_c rfl (ih _ _ _)) (Kv_no _)) (Kv_no _))
    | 8 =>
      refine Kv_eq (by rw [x_divideRows]) ?_
      exact Kv_c rfl (ih _ _ _)
    | 9 =>
      refine Kv_eq (by rw [x_divideRows]) ?_
      exact Kv_ite (Kv_c rfl (ih _ _ _)) (Kv_ite (Kv_c rfl (ih _ _ _)) (Kv_no _))
    | 10 =>
      refine Kv_eq (by rw [x_divideRows]) ?_
      exact Kv_c rfl (ih _ _ _)
    | 11 =>
      refine Kv_eq (by rw [x_divideRows]) ?_
      exact Kv_ob (Kv_c rfl (kv_compareRows__46__43 _ _ _ _)) (fun _ h206 => Kv_ite (Kv_c h206 (ih _ _ _)) (Kv_c h206 (ih _ _ _)))
    | 12 =>
      refine Kv_eq (by rw [x_divideRows]) ?_
      exact Kv_ite (Kv_c rfl (ih _ _ _)) (Kv_ite (Kv_ite (Kv_c rfl (ih _ _ _)) (Kv_ite (Kv_c rfl (ih _ _ _)) (Kv_no _))) (Kv_no _))
    | 13 =>
      refine Kv_eq (by rw [x_divideRows]) ?_
      exact Kv_c rfl (ih _ _ _)
    | 14 =>
      refine Kv_eq (by rw [x_divideRows]) ?_
      exact Kv_ite (Kv_c rfl (ih _ _ _)) (Kv_c rfl (ih _ _ _))
    | 15 =>
      refine Kv_eq (by rw [x_divideRows]) ?_
      exact Kv_c rfl (ih _ _ _)
    | 16 =>
      refine Kv_eq (by rw [x_divideRows]) ?_
      exact Kv_ite (Kv_c rfl (ih _ _ _)) (Kv_no _)
    | 17 =>
      refine Kv_eq (by rw [x_divideRows]) ?_
      exact Kv_c rfl (ih _ _ _)
    | 18 =>
      refine Kv_eq (by rw [x_divideRows]) ?_
      exact Kv_ite (Kv_c rfl (ih _ _ _)) (Kv_ite (Kv_ite (Kv_c rfl (ih _ _ _)) (Kv_c rfl (ih _ _ _))) (Kv_no _))
    | 19 =>
      refine Kv_eq (by rw [x_divideRows]) ?_
      exact Kv_ite (Kv_ite (Kv_c rfl (ih _ _ _)) (Kv_no _)) (Kv_no _)
    | 20 =>
      refine Kv_eq (by rw [x_divideRows]) ?_
      exact Kv_c rfl (ih _ _ _)
    | 21 =>
      refine Kv_eq (by rw [x_divideRows]) ?_
      exact Kv_so rfl
    | b + 22 =>
      refine Kv_eq (by rw [x_divideRows]) (Kv_no _)
theorem kv_divide : ∀ (k b : Nat) (L : Nat → Int32) (σ : MS), Kv (x_divide k b L σ) (kv σ) := by
  intro k
  induction k with
  | zero => intro b L σ; exact Kv_no _
  | succ k ih =>
    intro b L σ
    match b with
    | 0 =>
      refine Kv_eq (by rw [x_divide]) ?_
      exact Kv_ob (Kv_c rfl (kv_signOf _ _ _ _)) (fun _ h207 => Kv_ite (Kv_ob (Kv_c h207 (kv_fail _ _ _ _)) (fun _ h208 => Kv_so h208)) (Kv_c h207 (ih _ _ _)))
    | 1 =>
      refine Kv_eq (by rw [x_divide]) ?_
      exact Kv_ob (Kv_c rfl (kv_loadA _ _ _ _)) (fun _ h209 => Kv_ob (Kv_c h209 (kv_loadB _ _ _ _)) (fun _ h210 => Kv_ob (Kv_c h210 (kv_divideRows _ _ _ _)) (fun _ h211 => Kv_ob (Kv_c h211 (kv_signOf _ _ _ _)) (fun _ h212 => Kv_ite (Kv_c h212 (ih _ _ _)) (Kv_ite (Kv_c h212 (ih _ _ _)) (Kv_c h212 (ih _ _ _)))))))
    | 2 =>
      refine Kv_eq (by rw [x_divide]) ?_
      exact Kv_c rfl (ih _ _ _)
    | 3 =>
      refine Kv_eq (by rw [x_divide]) ?_
      exact Kv_ite (Kv_c rfl (ih _ _ _)) (Kv_ite (Kv_c rfl (ih _ _ _)) (Kv_c rfl (ih _ _ _)))
    | 4 =>
      refine Kv_eq (by rw [x_divide]) ?_
      exact Kv_c rfl (ih _ _ _)
    | 5 =>
      refine Kv_eq (by rw [x_divide]) ?_
      exact Kv_c rfl (ih _ _ _)
    | 6 =>
      refine Kv_eq (by rw [x_divide]) ?_
      exact Kv_c rfl (ih _ _ _)
    | 7 =>
      refine Kv_eq (by rw [x_divide]) ?_
      exact Kv_ite (Kv_c rfl (ih _ _ _)) (Kv_ite (Kv_c rfl (ih _ _ _)) (Kv_ite (Kv_c rfl (ih _ _ _)) (Kv_no _)))
    | 8 =>
      refine Kv_eq (by rw [x_divide]) ?_
      exact Kv_c rfl (ih _ _ _)
    | 9 =>
      refine Kv_eq (by rw [x_divide]) ?_
      exact Kv_ite (Kv_c rfl (ih _ _ _)) (Kv_ite (Kv_c rfl (ih _ _ _)) (Kv_no _))
    | 10 =>
      refine Kv_eq (by rw [x_divide]) ?_
      exact Kv_c rfl (ih _ _ _)
    | 11 =>
      refine Kv_eq (by rw [x_divide]) ?_
      exact Kv_ite (Kv_c rfl (ih _ _ _)) (Kv_ite (Kv_c rfl (ih _ _ _)) (Kv_c rfl (ih _ _ _)))
    | 12 =>
      refine Kv_eq (by rw [x_divide]) ?_
      exact Kv_c rfl (ih _ _ _)
    | 13 =>
      refine Kv_eq (by rw [x_divide]) ?_
      exact Kv_ite (Kv_c rfl (ih _ _ _)) (Kv_no _)
    | 14 =>
      refine Kv_eq (by rw [x_divide]) ?_
      exact Kv_c rfl (ih _ _ _)
    | 15 =>
      refine Kv_eq (by rw [x_divide]) ?_
      exact Kv_ob (Kv_c rfl (kv_wholeOf _ _ _ _)) (fun _ h213 => Kv_so h213)
    | 16 =>
      refine Kv_eq (by rw [x_divide]) ?_
      exact Kv_c rfl (ih _ _ _)
    | 17 =>
      refine Kv_eq (by rw [x_divide]) ?_
      exact Kv_ite (Kv_c rfl (ih _ _ _)) (Kv_c rfl (ih _ _ _))
    | 18 =>
      refine Kv_eq (by rw [x_divide]) ?_
      exact Kv_c rfl (ih _ _ _)
    | 19 =>
      refine Kv_eq (by rw [x_divide]) ?_
      exact Kv_c rfl (ih _ _ _)
    | 20 =>
      refine Kv_eq (by rw [x_divide]) ?_
      exact Kv_ite (Kv_c rfl (ih _ _ _)) (Kv_ite (Kv_ite (Kv_c rfl (ih _ _ _)) (Kv_no _)) (Kv_no _))
    | 21 =>
      refine Kv_eq (by rw [x_divide]) ?_
      exact Kv_c rfl (ih _ _ _)
    | 22 =>
      refine Kv_eq (by rw [x_divide]) ?_
      exact Kv_ite (Kv_c rfl (ih _ _ _)) (Kv_ite (Kv_c rfl (ih _ _ _)) (Kv_no _))
    | 23 =>
      refine Kv_eq (by rw [x_divide]) ?_
      exact Kv_c rfl (ih _ _ _)
    | 24 =>
      refine Kv_eq (by rw [x_divide]) ?_
      exact Kv_ob (Kv_c rfl (kv_signOf _ _ _ _)) (fun _ h214 => Kv_ob (Kv_c h214 (kv_signOf _ _ _ _)) (fun _ h215 => Kv_ob (Kv_c h215 (kv_wholeOf _ _ _ _)) (fun _ h216 => Kv_so h216)))
    | b + 25 =>
      refine Kv_eq (by rw [x_divide]) (Kv_no _)
theorem kv_isIn : ∀ (k b : Nat) (L : Nat → Int32) (σ : MS), Kv (x_isIn k b L σ) (kv σ) := by
  intro k
  induction k with
  | zero => intro b L σ; exact Kv_no _
  | succ k ih =>
    intro b L σ
    match b with
    | 0 =>
      refine Kv_eq (by rw [x_isIn]) ?_
      exact Kv_ob (Kv_c rfl (kv_kind _ _ _ _)) (fun _ h217 => Kv_ite (Kv_ite (Kv_c h217 (ih _ _ _)) (Kv_ob (Kv_c h217 (kv_has _ _ _ _)) (fun _ h218 => Kv_ite (Kv_c h218 (ih _ _ _)) (Kv_c h218 (ih _ _ _))))) (Kv_c h217 (ih _ _ _)))
    | 1 =>
      refine Kv_eq (by rw [x_isIn]) ?_
      exact Kv_c rfl (ih _ _ _)
    | 2 =>
      refine Kv_eq (by rw [x_isIn]) ?_
      exact Kv_ob (Kv_c rfl (kv_truth _ _ _ _)) (fun _ h219 => Kv_so h219)
    | 3 =>
      refine Kv_eq (by rw [x_isIn]) ?_
      exact Kv_ite (Kv_c rfl (ih _ _ _)) (Kv_c rfl (ih _ _ _))
    | 4 =>
      refine Kv_eq (by rw [x_isIn]) ?_
      exact Kv_ite (Kv_ite (Kv_c rfl (ih _ _ _)) (Kv_ite (Kv_c rfl (ih _ _ _)) (Kv_ite (Kv_ite (Kv_ob (Kv_c rfl (kv_compare _ _ _ _)) (fun _ h220 => Kv_ite (Kv_c h220 (ih _ _ _)) (Kv_c h220 (ih _ _ _)))) (Kv_no _)) (Kv_c rfl (ih _ _ _))))) (Kv_no _)
    | 5 =>
      refine Kv_eq (by rw [x_isIn]) ?_
      exact Kv_c rfl (ih _ _ _)
    | 6 =>
      refine Kv_eq (by rw [x_isIn]) ?_
      exact Kv_c rfl (ih _ _ _)
    | 7 =>
      refine Kv_eq (by rw [x_isIn]) ?_
      exact Kv_c rfl (ih _ _ _)
    | 8 =>
      refine Kv_eq (by rw [x_isIn]) ?_
      exact Kv_ob (Kv_c rfl (kv_truth _ _ _ _)) (fun _ h221 => Kv_so h221)
    | 9 =>
      refine Kv_eq (by rw [x_isIn]) ?_
      exact Kv_ite (Kv_ob (Kv_c rfl (kv_kind _ _ _ _)) (fun _ h222 => Kv_ite (Kv_c h222 (ih _ _ _)) (Kv_c h222 (ih _ _ _)))) (Kv_c rfl (ih _ _ _))
    | 10 =>
      refine Kv_eq (by rw [x_isIn]) ?_
      exact Kv_ob (Kv_c rfl (kv_wrongKind _ _ _ _)) (fun _ h223 => Kv_so h223)
    | 11 =>
      refine Kv_eq (by rw [x_isIn]) ?_
      exact Kv_c rfl (ih _ _ _)
    | 12 =>
      refine Kv_eq (by rw [x_isIn]) ?_
      exact Kv_ite (Kv_ite (Kv_ite (Kv_c rfl (ih _ _ _)) (Kv_ite (Kv_c rfl (ih _ _ _)) (Kv_c rfl (ih _ _ _)))) (Kv_no _)) (Kv_no _)
    | 13 =>
      refine Kv_eq (by rw [x_isIn]) ?_
      exact Kv_ite (Kv_ite (Kv_c rfl (ih _ _ _)) (Kv_ite (Kv_c rfl (ih _ _ _)) (Kv_ite (Kv_ite (Kv_ite (Kv_c rfl (ih _ _ _)) (Kv_c rfl (ih _ _ _))) (Kv_no _)) (Kv_no _)))) (Kv_no _)
    | 14 =>
      refine Kv_eq (by rw [x_isIn]) ?_
      exact Kv_c rfl (ih _ _ _)
    | 15 =>
      refine Kv_eq (by rw [x_isIn]) ?_
      exact Kv_c rfl (ih _ _ _)
    | 16 =>
      refine Kv_eq (by rw [x_isIn]) ?_
      exact Kv_c rfl (ih _ _ _)
    | 17 =>
      refine Kv_eq (by rw [x_isIn]) ?_
      exact Kv_ob (Kv_c rfl (kv_truth _ _ _ _)) (fun _ h224 => Kv_so h224)
    | b + 18 =>
      refine Kv_eq (by rw [x_isIn]) (Kv_no _)
theorem kv_isSubset : ∀ (k b : Nat) (L : Nat → Int32) (σ : MS), Kv (x_isSubset k b L σ) (kv σ) := by
  intro k
  induction k with
  | zero => intro b L σ; exact Kv_no _
  | succ k ih =>
    intro b L σ
    match b with
    | 0 =>
      refine Kv_eq (by rw [x_isSubset]) ?_
      exact Kv_c rfl (ih _ _ _)
    | 1 =>
      refine Kv_eq (by rw [x_isSubset]) ?_
      exact Kv_ite (Kv_ite (Kv_c rfl (ih _ _ _)) (Kv_ite (Kv_c rfl (ih _ _ _)) (Kv_ite (Kv_ob (Kv_c rfl (kv_has _ _ _ _)) (fun _ h225 => Kv_c h225 (ih _ _ _))) (Kv_no _)))) (Kv_no _)
    | 2 =>
      refine Kv_eq (by rw [x_isSubset]) ?_
      exact Kv_ite (Kv_so rfl) (Kv_no _)
    | b + 3 =>
      refine Kv_eq (by rw [x_isSubset]) (Kv_no _)
theorem kv_operate : ∀ (k b : Nat) (L : Nat → Int32) (σ : MS), Kv (x_operate k b L σ) (kv σ) := by
  intro k
  induction k with
  | zero => intro b L σ; exact Kv_no _
  | succ k ih =>
    intro b L σ
    match b with
    | 0 =>
      refine Kv_eq (by rw [x_operate]) ?_
      exact Kv_ob (Kv_c rfl (kv_kind _ _ _ _)) (fun _ h226 => Kv_ob (Kv_c h226 (kv_kind _ _ _ _)) (fun _ h227 => Kv_ite (Kv_ite (Kv_c h227 (ih _ _ _)) (Kv_c h227 (ih _ _ _))) (Kv_c h227 (ih _ _ _))))
    | 1 =>
      refine Kv_eq (by rw [x_operate]) ?_
      exact Kv_c rfl (ih _ _ _)
    | 2 =>
      refine Kv_eq (by rw [x_operate]) ?_
      exact Kv_ite (Kv_c rfl (ih _ _ _)) (Kv_ite (Kv_c rfl (ih _ _ _)) (Kv_ite (Kv_c rfl (ih _ _ _)) (Kv_ite (Kv_c rfl (ih _ _ _)) (Kv_ite (Kv_c rfl (ih _ _ _)) (Kv_ite (Kv_c rfl (ih _ _ _)) (Kv_ite (Kv_c rfl (ih _ _ _)) (Kv_ite (Kv_c rfl (ih _ _ _)) (Kv_ite (Kv_c rfl (ih _ _ _)) (Kv_ite (Kv_c rfl (ih _ _ _)) (Kv_ite (Kv_c rfl (ih _ _ _)) (Kv_c rfl (ih _ _ _))))))))))))
    | 3 =>
      refine Kv_eq (by rw [x_operate]) ?_
      exact Kv_ob (Kv_c rfl (kv_plus _ _ _ _)) (fun _ h228 => Kv_so h228)
    | 4 =>
      refine Kv_eq (by rw [x_operate]) ?_
      exact Kv_ite (Kv_c rfl (ih _ _ _)) (Kv_ob (Kv_c rfl (kv_add _ _ _ _)) (fun _ h229 => Kv_so h229))
    | 5 =>
      refine Kv_eq (by rw [x_operate]) ?_
      exact Kv_ite (Kv_ite (Kv_ob (Kv_c rfl (kv_sift _ _ _ _)) (fun _ h230 => Kv_c h230 (ih _ _ _))) (Kv_c rfl (ih _ _ _))) (Kv_c rfl (ih _ _ _))
    | 6 =>
      refine Kv_eq (by rw [x_operate]) ?_
      exact Kv_ob (Kv_c rfl (kv_wrongKind _ _ _ _)) (fun _ h231 => Kv_c h231 (ih _ _ _))
    | 7 =>
      refine Kv_eq (by rw [x_operate]) ?_
      exact Kv_so rfl
    | 8 =>
      refine Kv_eq (by rw [x_operate]) ?_
      exact Kv_ite (Kv_c rfl (ih _ _ _)) (Kv_ob (Kv_c rfl (kv_multiply _ _ _ _ _)) (fun _ h232 => Kv_so h232))
    | 9 =>
      refine Kv_eq (by rw [x_operate]) ?_
      exact Kv_ite (Kv_ite (Kv_ob (Kv_c rfl (kv_sift _ _ _ _)) (fun _ h233 => Kv_so h233)) (Kv_c rfl (ih _ _ _))) (Kv_c rfl (ih _ _ _))
    | 10 =>
      refine Kv_eq (by rw [x_operate]) ?_
      exact Kv_ite (Kv_c rfl (ih _ _ _)) (Kv_ite (Kv_c rfl (ih _ _ _)) (Kv_c rfl (ih _ _ _)))
    | 11 =>
      refine Kv_eq (by rw [x_operate]) ?_
      exact Kv_ite (Kv_ob (Kv_c rfl (kv_repeat _ _ _ _)) (fun _ h234 => Kv_c h234 (ih _ _ _))) (Kv_c rfl (ih _ _ _))
    | 12 =>
      refine Kv_eq (by rw [x_operate]) ?_
      exact Kv_ob (Kv_c rfl (kv_wrongKind _ _ _ _)) (fun _ h235 => Kv_c h235 (ih _ _ _))
    | 13 =>
      refine Kv_eq (by rw [x_operate]) ?_
      exact Kv_so rfl
    | 14 =>
      refine Kv_eq (by rw [x_operate]) ?_
      exact Kv_ite (Kv_c rfl (ih _ _ _)) (Kv_ob (Kv_c rfl (kv_raise _ _ _ _)) (fun _ h236 => Kv_c h236 (ih _ _ _)))
    | 15 =>
      refine Kv_eq (by rw [x_operate]) ?_
      exact Kv_ob (Kv_c rfl (kv_wrongKind _ _ _ _)) (fun _ h237 => Kv_c h237 (ih _ _ _))
    | 16 =>
      refine Kv_eq (by rw [x_operate]) ?_
      exact Kv_so rfl
    | 17 =>
      refine Kv_eq (by rw [x_operate]) ?_
      exact Kv_ob (Kv_c rfl (kv_compare _ _ _ _)) (fun _ h238 => Kv_ite (Kv_c h238 (ih _ _ _)) (Kv_c h238 (ih _ _ _)))
    | 18 =>
      refine Kv_eq (by rw [x_operate]) ?_
      exact Kv_c rfl (ih _ _ _)
    | 19 =>
      refine Kv_eq (by rw [x_operate]) ?_
      exact Kv_ob (Kv_c rfl (kv_truth _ _ _ _)) (fun _ h239 => Kv_so h239)
    | 20 =>
      refine Kv_eq (by rw [x_operate]) ?_
      exact Kv_ob (Kv_c rfl (kv_compare _ _ _ _)) (fun _ h240 => Kv_ite (Kv_c h240 (ih _ _ _)) (Kv_c h240 (ih _ _ _)))
    | 21 =>
      refine Kv_eq (by rw [x_operate]) ?_
      exact Kv_c rfl (ih _ _ _)
    | 22 =>
      refine Kv_eq (by rw [x_operate]) ?_
      exact Kv_ob (Kv_c rfl (kv_truth _ _ _ _)) (fun _ h241 => Kv_so h241)
    | 23 =>
      refine Kv_eq (by rw [x_operate]) ?_
      exact Kv_ite (Kv_c rfl (ih _ _ _)) (Kv_ob (Kv_c rfl (kv_divide _ _ _ _)) (fun _ h242 => Kv_c h242 (ih _ _ _)))
    | 24 =>
      refine Kv_eq (by rw [x_operate]) ?_
      exact Kv_ob (Kv_c rfl (kv_wrongKind _ _ _ _)) (fun _ h243 => Kv_c h243 (ih _ _ _))
    | 25 =>
      refine Kv_eq (by rw [x_operate]) ?_
      exact Kv_so rfl
    | 26 =>
      refine Kv_eq (by rw [x_operate]) ?_
      exact Kv_ite (Kv_c rfl (ih _ _ _)) (Kv_ob (Kv_c rfl (kv_divide _ _ _ _)) (fun _ h244 => Kv_c h244 (ih _ _ _)))
    | 27 =>
      refine Kv_eq (by rw [x_operate]) ?_
      exact Kv_ob (Kv_c rfl (kv_wrongKind _ _ _ _)) (fun _ h245 => Kv_c h245 (ih _ _ _))
    | 28 =>
      refine Kv_eq (by rw [x_operate]) ?_
      exact Kv_so rfl
    | 29 =>
      refine Kv_eq (by rw [x_operate]) ?_
      exact Kv_ob (Kv_c rfl (kv_isIn _ _ _ _)) (fun _ h246 => Kv_so h246)
    | 30 =>
      refine Kv_eq (by rw [x_operate]) ?_
      exact Kv_ob (Kv_c rfl (kv_isIn _ _ _ _)) (fun _ h247 => Kv_ite (Kv_c h247 (ih _ _ _)) (Kv_c h247 (ih _ _ _)))
    | 31 =>
      refine Kv_eq (by rw [x_operate]) ?_
      exact Kv_c rfl (ih _ _ _)
    | 32 =>
      refine Kv_eq (by rw [x_operate]) ?_
      exact Kv_ob (Kv_c rfl (kv_truth _ _ _ _)) (fun _ h248 => Kv_so h248)
    | 33 =>
      refine Kv_eq (by rw [x_operate]) ?_
      exact Kv_ite (Kv_ite (Kv_ob (Kv_c rfl (kv_isSubset _ _ _ _)) (fun _ h249 => Kv_ob (Kv_c h249 (kv_truth _ _ _ _)) (fun _ h250 => Kv_c h250 (ih _ _ _)))) (Kv_c rfl (ih _ _ _))) (Kv_c rfl (ih _ _ _))
    | 34 =>
      refine Kv_eq (by rw [x_operate]) ?_
      exact Kv_ob (Kv_c rfl (kv_wrongKind _ _ _ _)) (fun _ h251 => Kv_c h251 (ih _ _ _))
    | 35 =>
      refine Kv_eq (by rw [x_operate]) ?_
      exact Kv_so rfl
    | 36 =>
      refine Kv_eq (by rw [x_operate]) ?_
      exact Kv_ite (Kv_ite (Kv_ite (Kv_c rfl (ih _ _ _)) (Kv_c rfl (ih _ _ _))) (Kv_c rfl (ih _ _ _))) (Kv_c rfl (ih _ _ _))
    | 37 =>
      refine Kv_eq (by rw [x_operate]) ?_
      exact Kv_ob (Kv_c rfl (kv_wrongKind _ _ _ _)) (fun _ h252 => Kv_so h252)
    | 38 =>
      refine Kv_eq (by rw [x_operate]) ?_
      exact Kv_ob (Kv_c rfl (kv_compare _ _ _ _)) (fun _ h253 => Kv_ite (Kv_ite (Kv_c h253 (ih _ _ _)) (Kv_c h253 (ih _ _ _))) (Kv_c h253 (ih _ _ _)))
    | 39 =>
      refine Kv_eq (by rw [x_operate]) ?_
      exact Kv_c rfl (ih _ _ _)
    | 40 =>
      refine Kv_eq (by rw [x_operate]) ?_
      exact Kv_ite (Kv_ite (Kv_c rfl (ih _ _ _)) (Kv_c rfl (ih _ _ _))) (Kv_c rfl (ih _ _ _))
    | 41 =>
      refine Kv_eq (by rw [x_operate]) ?_
      exact Kv_c rfl (ih _ _ _)
    | 42 =>
      refine Kv_eq (by rw [x_operate]) ?_
      exact Kv_ite (Kv_ite (Kv_c rfl (ih _ _ _)) (Kv_c rfl (ih _ _ _))) (Kv_c rfl (ih _ _ _))
    | 43 =>
      refine Kv_eq (by rw [x_operate]) ?_
      exact Kv_c rfl (ih _ _ _)
    | 44 =>
      refine Kv_eq (by rw [x_operate]) ?_
      exact Kv_ite (Kv_c rfl (ih _ _ _)) (Kv_c rfl (ih _ _ _))
    | 45 =>
      refine Kv_eq (by rw [x_operate]) ?_
      exact Kv_c rfl (ih _ _ _)
    | 46 =>
      refine Kv_eq (by rw [x_operate]) ?_
      exact Kv_ob (Kv_c rfl (kv_truth _ _ _ _)) (fun _ h254 => Kv_so h254)
    | b + 47 =>
      refine Kv_eq (by rw [x_operate]) (Kv_no _)
theorem kv_reduce : ∀ (k b : Nat) (L : Nat → Int32) (σ : MS), Kv (x_reduce k b L σ) (kv σ) := by
  intro k
  induction k with
  | zero => intro b L σ; exact Kv_no _
  | succ k ih =>
    intro b L σ
    match b with
    | 0 =>
      refine Kv_eq (by rw [x_reduce]) ?_
      exact Kv_ob (Kv_c rfl (kv_kind _ _ _ _)) (fun _ h255 => Kv_ite (Kv_c h255 (ih _ _ _)) (Kv_ite (Kv_c h255 (ih _ _ _)) (Kv_ob (Kv_c h255 (kv_wrongKind _ _ _ _)) (fun _ h256 => Kv_so h256))))
    | 1 =>
      refine Kv_eq (by rw [x_reduce]) ?_
      exact Kv_ite (Kv_ite (Kv_so rfl) (Kv_c rfl (ih _ _ _))) (Kv_no _)
    | 2 =>
      refine Kv_eq (by rw [x_reduce]) ?_
      exact Kv_ob (Kv_c rfl (kv_push _ _ _ _)) (fun _ h257 => Kv_ite (Kv_ob (Kv_c h257 (kv_push _ _ _ _)) (fun _ h258 => Kv_c h258 (ih _ _ _))) (Kv_no _))
    | 3 =>
      refine Kv_eq (by rw [x_reduce]) ?_
      exact Kv_ite (Kv_c rfl (ih _ _ _)) (Kv_ite (Kv_ob (Kv_c rfl (kv_sweep _ _ _ _)) (fun _ h259 => Kv_ite (Kv_ite (Kv_ite (Kv_ite (Kv_c h259 (ih _ _ _)) (Kv_ite (Kv_c h259 (ih _ _ _)) (Kv_c h259 (ih _ _ _)))) (Kv_no _)) (Kv_no _)) (Kv_no _))) (Kv_c rfl (ih _ _ _)))
    | 4 =>
      refine Kv_eq (by rw [x_reduce]) ?_
      exact Kv_ob (Kv_c rfl (kv_operate _ _ _ _)) (fun _ h260 => Kv_ob (Kv_c h260 (kv_answer _ _ _ _)) (fun _ h261 => Kv_c h261 (ih _ _ _)))
    | 5 =>
      refine Kv_eq (by rw [x_reduce]) ?_
      exact Kv_ob (Kv_c rfl (kv_operate _ _ _ _)) (fun _ h262 => Kv_ite (Kv_c h262 (ih _ _ _)) (Kv_c h262 (ih _ _ _)))
    | 6 =>
      refine Kv_eq (by rw [x_reduce]) ?_
      exact Kv_c rfl (ih _ _ _)
    | 7 =>
      refine Kv_eq (by rw [x_reduce]) ?_
      exact Kv_ite (Kv_ite (Kv_c rfl (ih _ _ _)) (Kv_ite (Kv_c rfl (ih _ _ _)) (Kv_c rfl (ih _ _ _)))) (Kv_c rfl (ih _ _ _))
    | 8 =>
      refine Kv_eq (by rw [x_reduce]) ?_
      exact Kv_ob (Kv_c rfl (kv_operate _ _ _ _)) (fun _ h263 => Kv_ite (Kv_c h263 (ih _ _ _)) (Kv_c h263 (ih _ _ _)))
    | 9 =>
      refine Kv_eq (by rw [x_reduce]) ?_
      exact Kv_c rfl (ih _ _ _)
    | 10 =>
      refine Kv_eq (by rw [x_reduce]) ?_
      exact Kv_c rfl (ih _ _ _)
    | 11 =>
      refine Kv_eq (by rw [x_reduce]) ?_
      exact Kv_c rfl (ih _ _ _)
    | 12 =>
      refine Kv_eq (by rw [x_reduce]) ?_
      exact Kv_ite (Kv_c rfl (ih _ _ _)) (Kv_no _)
    | 13 =>
      refine Kv_eq (by rw [x_reduce]) ?_
      exact Kv_c rfl (ih _ _ _)
    | 14 =>
      refine Kv_eq (by rw [x_reduce]) ?_
      exact Kv_c rfl (ih _ _ _)
    | 15 =>
      refine Kv_eq (by rw [x_reduce]) ?_
      exact Kv_ite (Kv_ite (Kv_c rfl (ih _ _ _)) (Kv_no _)) (Kv_c rfl (ih _ _ _))
    | 16 =>
      refine Kv_eq (by rw [x_reduce]) ?_
      exact Kv_c rfl (ih _ _ _)
    | 17 =>
      refine Kv_eq (by rw [x_reduce]) ?_
      exact Kv_so rfl
    | b + 18 =>
      refine Kv_eq (by rw [x_reduce]) (Kv_no _)
theorem kv_single : ∀ (k b : Nat) (L : Nat → Int32) (σ : MS), Kv (x_single k b L σ) (kv σ) := by
  intro k
  induction k with
  | zero => intro b L σ; exact Kv_no _
  | succ k ih =>
    intro b L σ
    match b with
    | 0 =>
      refine Kv_eq (by rw [x_single]) ?_
      exact Kv_ite (Kv_ite (Kv_c rfl (ih _ _ _)) (Kv_ite (Kv_c rfl (ih _ _ _)) (Kv_ite (Kv_c rfl (ih _ _ _)) (Kv_ite (Kv_c rfl (ih _ _ _)) (Kv_c rfl (ih _ _ _)))))) (Kv_no _)
    | 1 =>
      refine Kv_eq (by rw [x_single]) ?_
      exact Kv_ite (Kv_ob (Kv_c rfl (kv_function _ _ _ _)) (fun _ h264 => Kv_so h264)) (Kv_no _)
    | 2 =>
      refine Kv_eq (by rw [x_single]) ?_
      exact Kv_ob (Kv_c rfl (kv_negative _ _ _ _)) (fun _ h265 => Kv_so h265)
    | 3 =>
      refine Kv_eq (by rw [x_single]) ?_
      exact Kv_ob (Kv_c rfl (kv_many _ _ _ _)) (fun _ h266 => Kv_so h266)
    | 4 =>
      refine Kv_eq (by rw [x_single]) ?_
      exact Kv_ob (Kv_c rfl (kv_turned _ _ _ _)) (fun _ h267 => Kv_so h267)
    | 5 =>
      refine Kv_eq (by rw [x_single]) ?_
      exact Kv_ite (Kv_ob (Kv_c rfl (kv_reduce _ _ _ _)) (fun _ h268 => Kv_so h268)) (Kv_no _)
    | b + 6 =>
      refine Kv_eq (by rw [x_single]) (Kv_no _)
theorem kv_range : ∀ (k b : Nat) (L : Nat → Int32) (σ : MS), Kv (x_range k b L σ) (kv σ) := by
  intro k
  induction k with
  | zero => intro b L σ; exact Kv_no _
  | succ k ih =>
    intro b L σ
    match b with
    | 0 =>
      refine Kv_eq (by rw [x_range]) ?_
      exact Kv_ob (Kv_c rfl (kv_pop _ _ _ _)) (fun _ h269 => Kv_ite (Kv_c h269 (ih _ _ _)) (Kv_ob (Kv_c h269 (kv_pop _ _ _ _)) (fun _ h270 => Kv_c h270 (ih _ _ _))))
    | 1 =>
      refine Kv_eq (by rw [x_range]) ?_
      exact Kv_c rfl (ih _ _ _)
    | 2 =>
      refine Kv_eq (by rw [x_range]) ?_
      exact Kv_ob (Kv_c rfl (kv_pop _ _ _ _)) (fun _ h271 => Kv_ob (Kv_c h271 (kv_kind _ _ _ _)) (fun _ h272 => Kv_ite (Kv_ob (Kv_c h272 (kv_kind _ _ _ _)) (fun _ h273 => Kv_ite (Kv_ite (Kv_c h273 (ih _ _ _)) (Kv_ob (Kv_c h273 (kv_kind _ _ _ _)) (fun _ h274 => Kv_ite (Kv_c h274 (ih _ _ _)) (Kv_c h274 (ih _ _ _))))) (Kv_c h273 (ih _ _ _)))) (Kv_c h272 (ih _ _ _))))
    | 3 =>
      refine Kv_eq (by rw [x_range]) ?_
      exact Kv_ob (Kv_c rfl (kv_wrongKind _ _ _ _)) (fun _ h275 => Kv_so h275)
    | 4 =>
      refine Kv_eq (by rw [x_range]) ?_
      exact Kv_ite (Kv_c rfl (ih _ _ _)) (Kv_ob (Kv_c rfl (kv_add _ _ _ _)) (fun _ h276 => Kv_c h276 (ih _ _ _)))
    | 5 =>
      refine Kv_eq (by rw [x_range]) ?_
      exact Kv_ob (Kv_c rfl (kv_small _ _ _ _)) (fun _ h277 => Kv_c h277 (ih _ _ _))
    | 6 =>
      refine Kv_eq (by rw [x_range]) ?_
      exact Kv_ite (Kv_c rfl (ih _ _ _)) (Kv_c rfl (ih _ _ _))
    | 7 =>
      refine Kv_eq (by rw [x_range]) ?_
      exact Kv_c rfl (ih _ _ _)
    | 8 =>
      refine Kv_eq (by rw [x_range]) ?_
      exact Kv_c rfl (ih _ _ _)
    | 9 =>
      refine Kv_eq (by rw [x_range]) ?_
      exact Kv_ite (Kv_c rfl (ih _ _ _)) (Kv_ob (Kv_c rfl (kv_compareWholes _ _ _ _)) (fun _ h278 => Kv_ite (Kv_c h278 (ih _ _ _)) (Kv_c h278 (ih _ _ _))))
    | 10 =>
      refine Kv_eq (by rw [x_range]) ?_
      exact Kv_c rfl (ih _ _ _)
    | 11 =>
      refine Kv_eq (by rw [x_range]) ?_
      exact Kv_ob (Kv_c rfl (kv_signOf _ _ _ _)) (fun _ h279 => Kv_c h279 (ih _ _ _))
    | 12 =>
      refine Kv_eq (by rw [x_range]) ?_
      exact Kv_ite (Kv_c rfl (ih _ _ _)) (Kv_c rfl (ih _ _ _))
    | 13 =>
      refine Kv_eq (by rw [x_range]) ?_
      exact Kv_c rfl (ih _ _ _)
    | 14 =>
      refine Kv_eq (by rw [x_range]) ?_
      exact Kv_c rfl (ih _ _ _)
    | 15 =>
      refine Kv_eq (by rw [x_range]) ?_
      exact Kv_ite (Kv_ite (Kv_c rfl (ih _ _ _)) (Kv_ite (Kv_c rfl (ih _ _ _)) (Kv_ob (Kv_c rfl (kv_compareWholes _ _ _ _)) (fun _ h280 => Kv_ite (Kv_c h280 (ih _ _ _)) (Kv_c h280 (ih _ _ _)))))) (Kv_c rfl (ih _ _ _))
    | 16 =>
      refine Kv_eq (by rw [x_range]) ?_
      exact Kv_ob (Kv_c rfl (kv_compareWholes _ _ _ _)) (fun _ h281 => Kv_ite (Kv_c h281 (ih _ _ _)) (Kv_c h281 (ih _ _ _)))
    | 17 =>
      refine Kv_eq (by rw [x_range]) ?_
      exact Kv_ob (Kv_c rfl (kv_push _ _ _ _)) (fun _ h282 => Kv_ite (Kv_c h282 (ih _ _ _)) (Kv_ob (Kv_c h282 (kv_fail _ _ _ _)) (fun _ h283 => Kv_c h283 (ih _ _ _))))
    | 18 =>
      refine Kv_eq (by rw [x_range]) ?_
      exact Kv_ite (Kv_c rfl (ih _ _ _)) (Kv_ite (Kv_c rfl (ih _ _ _)) (Kv_c rfl (ih _ _ _)))
    | 19 =>
      refine Kv_eq (by rw [x_range]) ?_
      exact Kv_c rfl (ih _ _ _)
    | 20 =>
      refine Kv_eq (by rw [x_range]) ?_
      exact Kv_c rfl (ih _ _ _)
    | 21 =>
      refine Kv_eq (by rw [x_range]) ?_
      exact Kv_ob (Kv_c rfl (kv_add _ _ _ _)) (fun _ h284 => Kv_ite (Kv_c h284 (ih _ _ _)) (Kv_c h284 (ih _ _ _)))
    | 22 =>
      refine Kv_eq (by rw [x_range]) ?_
      exact Kv_c rfl (ih _ _ _)
    | 23 =>
      refine Kv_eq (by rw [x_range]) ?_
      exact Kv_c rfl (ih _ _ _)
    | 24 =>
      refine Kv_eq (by rw [x_range]) ?_
      exact Kv_ite (Kv_c rfl (ih _ _ _)) (Kv_so rfl)
    | 25 =>
      refine Kv_eq (by rw [x_range]) ?_
      exact Kv_ite (Kv_c rfl (ih _ _ _)) (Kv_ob (Kv_c rfl (kv_setOf _ _ _ _)) (fun _ h285 => Kv_c h285 (ih _ _ _)))
    | 26 =>
      refine Kv_eq (by rw [x_range]) ?_
      exact Kv_ob (Kv_c rfl (kv_tupleOf _ _ _ _)) (fun _ h286 => Kv_c h286 (ih _ _ _))
    | 27 =>
      refine Kv_eq (by rw [x_range]) ?_
      exact Kv_so rfl
    | b + 28 =>
      refine Kv_eq (by rw [x_range]) (Kv_no _)
theorem kv_isOver : ∀ (k b : Nat) (L : Nat → Int32) (σ : MS), Kv (x_isOver k b L σ) (kv σ) := by
  intro k
  induction k with
  | zero => intro b L σ; exact Kv_no _
  | succ k ih =>
    intro b L σ
    match b with
    | 0 =>
      refine Kv_eq (by rw [x_isOver]) ?_
      exact Kv_ite (Kv_c rfl (ih _ _ _)) (Kv_ite (Kv_c rfl (ih _ _ _)) (Kv_ite (Kv_c rfl (ih _ _ _)) (Kv_ite (Kv_c rfl (ih _ _ _)) (Kv_ite (Kv_c rfl (ih _ _ _)) (Kv_ite (Kv_c rfl (ih _ _ _)) (Kv_ite (Kv_c rfl (ih _ _ _)) (Kv_c rfl (ih _ _ _))))))))
    | 1 =>
      refine Kv_eq (by rw [x_isOver]) ?_
      exact Kv_c rfl (ih _ _ _)
    | 2 =>
      refine Kv_eq (by rw [x_isOver]) ?_
      exact Kv_c rfl (ih _ _ _)
    | 3 =>
      refine Kv_eq (by rw [x_isOver]) ?_
      exact Kv_ite (Kv_so rfl) (Kv_no _)
    | b + 4 =>
      refine Kv_eq (by rw [x_isOver]) (Kv_no _)
theorem kv_bindOne : ∀ (k b : Nat) (L : Nat → Int32) (σ : MS), Kv (x_bindOne k b L σ) (kv σ) := by
  intro k
  induction k with
  | zero => intro b L σ; exact Kv_no _
  | succ k ih =>
    intro b L σ
    match b with
    | 0 =>
      refine Kv_eq (by rw [x_bindOne]) ?_
      exact Kv_ite (Kv_ite (Kv_ite (Kv_ite (Kv_c rfl (ih _ _ _)) (Kv_no _)) (Kv_no _)) (Kv_c rfl (ih _ _ _))) (Kv_no _)
    | 1 =>
      refine Kv_eq (by rw [x_bindOne]) ?_
      exact Kv_ite (Kv_c rfl (ih _ _ _)) (Kv_ite (Kv_ite (Kv_c rfl (ih _ _ _)) (Kv_no _)) (Kv_no _))
    | 2 =>
      refine Kv_eq (by rw [x_bindOne]) ?_
      exact Kv_ite (Kv_ite (Kv_ite (Kv_c rfl (ih _ _ _)) (Kv_no _)) (Kv_no _)) (Kv_no _)
    | 3 =>
      refine Kv_eq (by rw [x_bindOne]) ?_
      exact Kv_so rfl
    | b + 4 =>
      refine Kv_eq (by rw [x_bindOne]) (Kv_no _)
theorem kv_clear : ∀ (k b : Nat) (L : Nat → Int32) (σ : MS), Kv (x_clear k b L σ) (kv σ) := by
  intro k
  induction k with
  | zero => intro b L σ; exact Kv_no _
  | succ k ih =>
    intro b L σ
    match b with
    | 0 =>
      refine Kv_eq (by rw [x_clear]) ?_
      exact Kv_c rfl (ih _ _ _)
    | 1 =>
      refine Kv_eq (by rw [x_clear]) ?_
      exact Kv_ite (Kv_c rfl (ih _ _ _)) (Kv_ite (Kv_c rfl (ih _ _ _)) (Kv_no _))
    | 2 =>
      refine Kv_eq (by rw [x_clear]) ?_
      exact Kv_ite (Kv_c rfl (ih _ _ _)) (Kv_ob (Kv_c rfl (kv_bindOne _ _ _ _)) (fun _ h287 => Kv_ite (Kv_c h287 (ih _ _ _)) (Kv_no _)))
    | 3 =>
      refine Kv_eq (by rw [x_clear]) ?_
      exact Kv_ite (Kv_c rfl (ih _ _ _)) (Kv_no _)
    | 4 =>
      refine Kv_eq (by rw [x_clear]) ?_
      exact Kv_so rfl
    | b + 5 =>
      refine Kv_eq (by rw [x_clear]) (Kv_no _)
theorem kv_bind : ∀ (k b : Nat) (L : Nat → Int32) (σ : MS), Kv (x_bind k b L σ) (kv σ) := by
  intro k
  induction k with
  | zero => intro b L σ; exact Kv_no _
  | succ k ih =>
    intro b L σ
    match b with
    | 0 =>
      refine Kv_eq (by rw [x_bind]) ?_
      exact Kv_ite (Kv_ite (Kv_ite (Kv_ob (Kv_c rfl (kv_bindOne _ _ _ _)) (fun _ h288 => Kv_so h288)) (Kv_no _)) (Kv_c rfl (ih _ _ _))) (Kv_no _)
    | 1 =>
      refine Kv_eq (by rw [x_bind]) ?_
      exact Kv_ite (Kv_c rfl (ih _ _ _)) (Kv_no _)
    | 2 =>
      refine Kv_eq (by rw [x_bind]) ?_
      exact Kv_ite (Kv_c rfl (ih _ _ _)) (Kv_ite (Kv_c rfl (ih _ _ _)) (Kv_no _))
    | 3 =>
      refine Kv_eq (by rw [x_bind]) ?_
      exact Kv_ob (Kv_c rfl (kv_kind _ _ _ _)) (fun _ h289 => Kv_ite (Kv_ite (Kv_ite (Kv_c h289 (ih _ _ _)) (Kv_c h289 (ih _ _ _))) (Kv_no _)) (Kv_c h289 (ih _ _ _)))
    | 4 =>
      refine Kv_eq (by rw [x_bind]) ?_
      exact Kv_ob (Kv_c rfl (kv_fail _ _ _ _)) (fun _ h290 => Kv_so h290)
    | 5 =>
      refine Kv_eq (by rw [x_bind]) ?_
      exact Kv_ite (Kv_c rfl (ih _ _ _)) (Kv_no _)
    | 6 =>
      refine Kv_eq (by rw [x_bind]) ?_
      exact Kv_ite (Kv_c rfl (ih _ _ _)) (Kv_ite (Kv_ite (Kv_c rfl (ih _ _ _)) (Kv_ite (Kv_c rfl (ih _ _ _)) (Kv_no _))) (Kv_no _))
    | 7 =>
      refine Kv_eq (by rw [x_bind]) ?_
      exact Kv_c rfl (ih _ _ _)
    | 8 =>
      refine Kv_eq (by rw [x_bind]) ?_
      exact Kv_ob (Kv_c rfl (kv_bindOne _ _ _ _)) (fun _ h291 => Kv_ite (Kv_c h291 (ih _ _ _)) (Kv_no _))
    | 9 =>
      refine Kv_eq (by rw [x_bind]) ?_
      exact Kv_so rfl
    | b + 10 =>
      refine Kv_eq (by rw [x_bind]) (Kv_no _)
theorem kv_stepIter : ∀ (k b : Nat) (L : Nat → Int32) (σ : MS), Kv (x_stepIter k b L σ) (kv σ) := by
  intro k
  induction k with
  | zero => intro b L σ; exact Kv_no _
  | succ k ih =>
    intro b L σ
    match b with
    | 0 =>
      refine Kv_eq (by rw [x_stepIter]) ?_
      exact Kv_ite (Kv_ite (Kv_ite (Kv_ite (Kv_so rfl) (Kv_c rfl (ih _ _ _))) (Kv_no _)) (Kv_no _)) (Kv_no _)
    | 1 =>
      refine Kv_eq (by rw [x_stepIter]) ?_
      exact Kv_ite (Kv_c rfl (ih _ _ _)) (Kv_no _)
    | 2 =>
      refine Kv_eq (by rw [x_stepIter]) ?_
      exact Kv_ob (Kv_c rfl (kv_worked _ _ _ _)) (fun _ h292 => Kv_ite (Kv_ob (Kv_c h292 (kv_memberAt _ _ _ _)) (fun _ h293 => Kv_ob (Kv_c h293 (kv_bind _ _ _ _)) (fun _ h294 => Kv_c h294 (ih _ _ _)))) (Kv_c h292 (ih _ _ _)))
    | 3 =>
      refine Kv_eq (by rw [x_stepIter]) ?_
      exact Kv_ite (Kv_c rfl (ih _ _ _)) (Kv_c rfl (ih _ _ _))
    | 4 =>
      refine Kv_eq (by rw [x_stepIter]) ?_
      exact Kv_c rfl (ih _ _ _)
    | 5 =>
      refine Kv_eq (by rw [x_stepIter]) ?_
      exact Kv_ite (Kv_so rfl) (Kv_no _)
    | b + 6 =>
      refine Kv_eq (by rw [x_stepIter]) (Kv_no _)
theorem kv_isTrue : ∀ (k b : Nat) (L : Nat → Int32) (σ : MS), Kv (x_isTrue k b L σ) (kv σ) := by
  intro k
  induction k with
  | zero => intro b L σ; exact Kv_no _
  | succ k ih =>
    intro b L σ
    match b with
    | 0 =>
      refine Kv_eq (by rw [x_isTrue]) ?_
      exact Kv_ob (Kv_c rfl (kv_pop _ _ _ _)) (fun _ h295 => Kv_ite (Kv_c h295 (ih _ _ _)) (Kv_ite (Kv_c h295 (ih _ _ _)) (Kv_ob (Kv_c h295 (kv_fail _ _ _ _)) (fun _ h296 => Kv_c h296 (ih _ _ _)))))
    | 1 =>
      refine Kv_eq (by rw [x_isTrue]) ?_
      exact Kv_ite (Kv_c rfl (ih _ _ _)) (Kv_c rfl (ih _ _ _))
    | 2 =>
      refine Kv_eq (by rw [x_isTrue]) ?_
      exact Kv_c rfl (ih _ _ _)
    | 3 =>
      refine Kv_eq (by rw [x_isTrue]) ?_
      exact Kv_ite (Kv_so rfl) (Kv_no _)
    | b + 4 =>
      refine Kv_eq (by rw [x_isTrue]) (Kv_no _)
theorem kv_isSlice : ∀ (k b : Nat) (L : Nat → Int32) (σ : MS), Kv (x_isSlice k b L σ) (kv σ) := by
  intro k
  induction k with
  | zero => intro b L σ; exact Kv_no _
  | succ k ih =>
    intro b L σ
    match b with
    | 0 =>
      refine Kv_eq (by rw [x_isSlice]) ?_
      exact Kv_ob (Kv_c rfl (kv_kind _ _ _ _)) (fun _ h297 => Kv_ite (Kv_c h297 (ih _ _ _)) (Kv_ite (Kv_c h297 (ih _ _ _)) (Kv_c h297 (ih _ _ _))))
    | 1 =>
      refine Kv_eq (by rw [x_isSlice]) ?_
      exact Kv_ob (Kv_c rfl (kv_kind _ _ _ _)) (fun _ h298 => Kv_ite (Kv_ob (Kv_c h298 (kv_kind _ _ _ _)) (fun _ h299 => Kv_ite (Kv_c h299 (ih _ _ _)) (Kv_c h299 (ih _ _ _)))) (Kv_c h298 (ih _ _ _)))
    | 2 =>
      refine Kv_eq (by rw [x_isSlice]) ?_
      exact Kv_ob (Kv_c rfl (kv_fail _ _ _ _)) (fun _ h300 => Kv_so h300)
    | 3 =>
      refine Kv_eq (by rw [x_isSlice]) ?_
      exact Kv_ob (Kv_c rfl (kv_intOf _ _ _ _ _)) (fun _ h301 => Kv_c h301 (ih _ _ _))
    | 4 =>
      refine Kv_eq (by rw [x_isSlice]) ?_
      exact Kv_ob (Kv_c rfl (kv_intOf _ _ _ _ _)) (fun _ h302 => Kv_c h302 (ih _ _ _))
    | 5 =>
      refine Kv_eq (by rw [x_isSlice]) ?_
      exact Kv_so rfl
    | b + 6 =>
      refine Kv_eq (by rw [x_isSlice]) (Kv_no _)
theorem kv_isSliceIn : ∀ (k b : Nat) (L : Nat → Int32) (σ : MS), Kv (x_isSliceIn k b L σ) (kv σ) := by
  intro k
  induction k with
  | zero => intro b L σ; exact Kv_no _
  | succ k ih =>
    intro b L σ
    match b with
    | 0 =>
      refine Kv_eq (by rw [x_isSliceIn]) ?_
      exact Kv_ite (Kv_c rfl (ih _ _ _)) (Kv_ite (Kv_c rfl (ih _ _ _)) (Kv_ite (Kv_ite (Kv_c rfl (ih _ _ _)) (Kv_c rfl (ih _ _ _))) (Kv_no _)))
    | 1 =>
      refine Kv_eq (by rw [x_isSliceIn]) ?_
      exact Kv_ob (Kv_c rfl (kv_fail _ _ _ _)) (fun _ h303 => Kv_so h303)
    | 2 =>
      refine Kv_eq (by rw [x_isSliceIn]) ?_
      exact Kv_so rfl
    | b + 3 =>
      refine Kv_eq (by rw [x_isSliceIn]) (Kv_no _)
theorem kv_stringOf__28 : ∀ (k b : Nat) (L : Nat → Int32) (σ : MS), Kv (x_stringOf__28 k b L σ) (kv σ) := by
  intro k
  induction k with
  | zero => intro b L σ; exact Kv_no _
  | succ k ih =>
    intro b L σ
    match b with
    | 0 =>
      refine Kv_eq (by rw [x_stringOf__28]) ?_
      exact Kv_ite (Kv_no _) (Kv_ite (Kv_c rfl (ih _ _ _)) (Kv_ob (Kv_c rfl (kv_fail _ _ _ _)) (fun _ h304 => Kv_so h304)))
    | 1 =>
      refine Kv_eq (by rw [x_stringOf__28]) ?_
      exact Kv_ob (Kv_c rfl (kv_make _ _ _ _)) (fun _ h305 => Kv_c h305 (ih _ _ _))
    | 2 =>
      refine Kv_eq (by rw [x_stringOf__28]) ?_
      exact Kv_ite (Kv_c rfl (ih _ _ _)) (Kv_ite (Kv_ite (Kv_ite (Kv_c rfl (ih _ _ _)) (Kv_no _)) (Kv_no _)) (Kv_c rfl (ih _ _ _)))
    | 3 =>
      refine Kv_eq (by rw [x_stringOf__28]) ?_
      exact Kv_c rfl (ih _ _ _)
    | 4 =>
      refine Kv_eq (by rw [x_stringOf__28]) ?_
      exact Kv_ite (Kv_no _) (Kv_ite (Kv_c rfl (ih _ _ _)) (Kv_no _))
    | 5 =>
      refine Kv_eq (by rw [x_stringOf__28]) ?_
      exact Kv_so rfl
    | b + 6 =>
      refine Kv_eq (by rw [x_stringOf__28]) (Kv_no _)
theorem kv_slice : ∀ (k b : Nat) (L : Nat → Int32) (σ : MS), Kv (x_slice k b L σ) (kv σ) := by
  intro k
  induction k with
  | zero => intro b L σ; exact Kv_no _
  | succ k ih =>
    intro b L σ
    match b with
    | 0 =>
      refine Kv_eq (by rw [x_slice]) ?_
      exact Kv_ob (Kv_c rfl (kv_isSlice _ _ _ _)) (fun _ h306 => Kv_ite (Kv_c h306 (ih _ _ _)) (Kv_ob (Kv_c h306 (kv_isSliceIn _ _ _ _)) (fun _ h307 => Kv_ite (Kv_c h307 (ih _ _ _)) (Kv_c h307 (ih _ _ _)))))
    | 1 =>
      refine Kv_eq (by rw [x_slice]) ?_
      exact Kv_so rfl
    | 2 =>
      refine Kv_eq (by rw [x_slice]) ?_
      exact Kv_ite (Kv_ite (Kv_ob (Kv_c rfl (kv_stringOf__28 _ _ _ _)) (fun _ h308 => Kv_so h308)) (Kv_c rfl (ih _ _ _))) (Kv_no _)
    | 3 =>
      refine Kv_eq (by rw [x_slice]) ?_
      exact Kv_c rfl (ih _ _ _)
    | 4 =>
      refine Kv_eq (by rw [x_slice]) ?_
      exact Kv_ite (Kv_c rfl (ih _ _ _)) (Kv_ite (Kv_ob (Kv_c rfl (kv_push _ _ _ _)) (fun _ h309 => Kv_c h309 (ih _ _ _))) (Kv_no _))
    | 5 =>
      refine Kv_eq (by rw [x_slice]) ?_
      exact Kv_ob (Kv_c rfl (kv_tupleOf _ _ _ _)) (fun _ h310 => Kv_so h310)
    | b + 6 =>
      refine Kv_eq (by rw [x_slice]) (Kv_no _)
theorem kv_partAt : ∀ (k b : Nat) (L : Nat → Int32) (σ : MS), Kv (x_partAt k b L σ) (kv σ) := by
  intro k
  induction k with
  | zero => intro b L σ; exact Kv_no _
  | succ k ih =>
    intro b L σ
    match b with
    | 0 =>
      refine Kv_eq (by rw [x_partAt]) ?_
      exact Kv_ob (Kv_c rfl (kv_kind _ _ _ _)) (fun _ h311 => Kv_ite (Kv_c h311 (ih _ _ _)) (Kv_ite (Kv_c h311 (ih _ _ _)) (Kv_c h311 (ih _ _ _))))
    | 1 =>
      refine Kv_eq (by rw [x_partAt]) ?_
      exact Kv_ob (Kv_c rfl (kv_kind _ _ _ _)) (fun _ h312 => Kv_ite (Kv_c h312 (ih _ _ _)) (Kv_ob (Kv_c h312 (kv_wrongKind _ _ _ _)) (fun _ h313 => Kv_so h313)))
    | 2 =>
      refine Kv_eq (by rw [x_partAt]) ?_
      exact Kv_ob (Kv_c rfl (kv_intOf _ _ _ _ _)) (fun _ h314 => Kv_ite (Kv_c h314 (ih _ _ _)) (Kv_ob (Kv_c h314 (kv_fail _ _ _ _)) (fun _ h315 => Kv_so h315)))
    | 3 =>
      refine Kv_eq (by rw [x_partAt]) ?_
      exact Kv_ite (Kv_ite (Kv_c rfl (ih _ _ _)) (Kv_c rfl (ih _ _ _))) (Kv_no _)
    | 4 =>
      refine Kv_eq (by rw [x_partAt]) ?_
      exact Kv_ob (Kv_c rfl (kv_memberAt _ _ _ _)) (fun _ h316 => Kv_c h316 (ih _ _ _))
    | 5 =>
      refine Kv_eq (by rw [x_partAt]) ?_
      exact Kv_so rfl
    | 6 =>
      refine Kv_eq (by rw [x_partAt]) ?_
      exact Kv_ob (Kv_c rfl (kv_isMap _ _ _ _)) (fun _ h317 => Kv_ite (Kv_ob (Kv_c h317 (kv_wrongKind _ _ _ _)) (fun _ h318 => Kv_so h318)) (Kv_c h317 (ih _ _ _)))
    | 7 =>
      refine Kv_eq (by rw [x_partAt]) ?_
      exact Kv_c rfl (ih _ _ _)
    | 8 =>
      refine Kv_eq (by rw [x_partAt]) ?_
      exact Kv_ite (Kv_ite (Kv_c rfl (ih _ _ _)) (Kv_ite (Kv_ite (Kv_ob (Kv_c rfl (kv_compare _ _ _ _)) (fun _ h319 => Kv_ite (Kv_ite (Kv_c h319 (ih _ _ _)) (Kv_no _)) (Kv_c h319 (ih _ _ _)))) (Kv_no _)) (Kv_no _))) (Kv_no _)
    | 9 =>
      refine Kv_eq (by rw [x_partAt]) ?_
      exact Kv_c rfl (ih _ _ _)
    | 10 =>
      refine Kv_eq (by rw [x_partAt]) ?_
      exact Kv_ite (Kv_c rfl (ih _ _ _)) (Kv_c rfl (ih _ _ _))
    | 11 =>
      refine Kv_eq (by rw [x_partAt]) ?_
      exact Kv_c rfl (ih _ _ _)
    | 12 =>
      refine Kv_eq (by rw [x_partAt]) ?_
      exact Kv_so rfl
    | b + 13 =>
      refine Kv_eq (by rw [x_partAt]) (Kv_no _)
theorem kv_image : ∀ (k b : Nat) (L : Nat → Int32) (σ : MS), Kv (x_image k b L σ) (kv σ) := by
  intro k
  induction k with
  | zero => intro b L σ; exact Kv_no _
  | succ k ih =>
    intro b L σ
    match b with
    | 0 =>
      refine Kv_eq (by rw [x_image]) ?_
      exact Kv_ob (Kv_c rfl (kv_isMap _ _ _ _)) (fun _ h320 => Kv_ite (Kv_ob (Kv_c h320 (kv_wrongKind _ _ _ _)) (fun _ h321 => Kv_so h321)) (Kv_c h320 (ih _ _ _)))
    | 1 =>
      refine Kv_eq (by rw [x_image]) ?_
      exact Kv_c rfl (ih _ _ _)
    | 2 =>
      refine Kv_eq (by rw [x_image]) ?_
      exact Kv_ite (Kv_ite (Kv_c rfl (ih _ _ _)) (Kv_ite (Kv_ite (Kv_ob (Kv_c rfl (kv_compare _ _ _ _)) (fun _ h322 => Kv_ite (Kv_ite (Kv_ob (Kv_c h322 (kv_push _ _ _ _)) (fun _ h323 => Kv_c h323 (ih _ _ _))) (Kv_no _)) (Kv_c h322 (ih _ _ _)))) (Kv_no _)) (Kv_no _))) (Kv_no _)
    | 3 =>
      refine Kv_eq (by rw [x_image]) ?_
      exact Kv_c rfl (ih _ _ _)
    | 4 =>
      refine Kv_eq (by rw [x_image]) ?_
      exact Kv_ob (Kv_c rfl (kv_setOf _ _ _ _)) (fun _ h324 => Kv_so h324)
    | b + 5 =>
      refine Kv_eq (by rw [x_image]) (Kv_no _)
theorem kv_isRow : ∀ (k b : Nat) (L : Nat → Int32) (σ : MS), Kv (x_isRow k b L σ) (kv σ) := by
  intro k
  induction k with
  | zero => intro b L σ; exact Kv_no _
  | succ k ih =>
    intro b L σ
    match b with
    | 0 =>
      refine Kv_eq (by rw [x_isRow]) ?_
      exact Kv_ob (Kv_c rfl (kv_kind _ _ _ _)) (fun _ h325 => Kv_ite (Kv_c h325 (ih _ _ _)) (Kv_c h325 (ih _ _ _)))
    | 1 =>
      refine Kv_eq (by rw [x_isRow]) ?_
      exact Kv_c rfl (ih _ _ _)
    | 2 =>
      refine Kv_eq (by rw [x_isRow]) ?_
      exact Kv_ite (Kv_so rfl) (Kv_no _)
    | b + 3 =>
      refine Kv_eq (by rw [x_isRow]) (Kv_no _)
theorem kv_s_begins {X : Nat → Nat → Nat → (Nat → Int32) → MS → Option (Int32 × MS)} (hX : ∀ e m b L (σ : MS), Kv (X e m b L σ) (kv σ)) (k d b : Nat) (L : Nat → Int32) (σ : MS) : Kv (s_begins X k d b L σ) (kv σ) := by
  match b with
  | 0 => exact Kv_ite (Kv_c rfl (hX _ _ _ _ _)) (Kv_so rfl)
  | 1 => exact Kv_ite (Kv_ite (Kv_c rfl (hX _ _ _ _ _)) (Kv_ite (Kv_c rfl (hX _ _ _ _ _)) (Kv_ite (Kv_c rfl (hX _ _ _ _ _)) (Kv_ite (Kv_c rfl (hX _ _ _ _ _)) (Kv_ite (Kv_c rfl (hX _ _ _ _ _)) (Kv_ite (Kv_c rfl (hX _ _ _ _ _)) (Kv_ite (Kv_c rfl (hX _ _ _ _ _)) (Kv_ite (Kv_c rfl (hX _ _ _ _ _)) (Kv_ite (Kv_c rfl (hX _ _ _ _ _)) (Kv_ite (Kv_c rfl (hX _ _ _ _ _)) (Kv_ite (Kv_c rfl (hX _ _ _ _ _)) (Kv_ite (Kv_c rfl (hX _ _ _ _ _)) (Kv_ite (Kv_c rfl (hX _ _ _ _ _)) (Kv_ite (Kv_c rfl (hX _ _ _ _ _)) (Kv_ite (Kv_c rfl (hX _ _ _ _ _)) (Kv_c rfl (hX _ _ _ _ _))))))))))))))))) (Kv_no _)
  | 2 => exact Kv_ob (Kv_c rfl (kv_sweep _ _ _ _)) (fun _ h326 => Kv_ite (Kv_ite (Kv_ob (Kv_c h326 (kv_literal _ _ _ _)) (fun _ h327 => Kv_ob (Kv_c h327 (kv_answer _ _ _ _)) (fun _ h328 => Kv_ob (Kv_c h328 (kv_push _ _ _ _)) (fun _ h329 => Kv_so h329)))) (Kv_no _)) (Kv_no _))
  | 3 => exact Kv_ob (Kv_c rfl (kv_sweep _ _ _ _)) (fun _ h330 => Kv_ite (Kv_ite (Kv_ob (Kv_c h330 (kv_stringOf__12 _ _ _ _)) (fun _ h331 => Kv_ob (Kv_c h331 (kv_answer _ _ _ _)) (fun _ h332 => Kv_ob (Kv_c h332 (kv_push _ _ _ _)) (fun _ h333 => Kv_so h333)))) (Kv_no _)) (Kv_no _))
  | 4 => exact Kv_ob (Kv_c rfl (kv_push _ _ _ _)) (fun _ h334 => Kv_so h334)
  | 5 => exact Kv_ob (Kv_c rfl (kv_push _ _ _ _)) (fun _ h335 => Kv_so h335)
  | 6 => exact Kv_ob (Kv_c rfl (kv_push _ _ _ _)) (fun _ h336 => Kv_so h336)
  | 7 => exact Kv_ob (Kv_c rfl (kv_sweep _ _ _ _)) (fun _ h337 => Kv_ob (Kv_c h337 (kv_newAtom _ _ _ _)) (fun _ h338 => Kv_ob (Kv_c h338 (kv_answer _ _ _ _)) (fun _ h339 => Kv_ob (Kv_c h339 (kv_push _ _ _ _)) (fun _ h340 => Kv_so h340))))
  | 8 => exact Kv_ob (Kv_c rfl (kv_valueOf _ _ _ _)) (fun _ h341 => Kv_ob (Kv_c h341 (kv_push _ _ _ _)) (fun _ h342 => Kv_so h342))
  | 9 => exact Kv_od (fun _ => Kv_ob (Kv_c rfl (hX _ _ _ _ _)) (fun _ h343 => Kv_so h343))
  | 10 => exact Kv_od (fun _ => Kv_ob (Kv_c rfl (hX _ _ _ _ _)) (fun _ h344 => Kv_so h344))
  | 11 => exact Kv_od (fun _ => Kv_ob (Kv_c rfl (hX _ _ _ _ _)) (fun _ h345 => Kv_so h345))
  | 12 => exact Kv_od (fun _ => Kv_ob (Kv_c rfl (hX _ _ _ _ _)) (fun _ h346 => Kv_so h346))
  | 13 => exact Kv_od (fun _ => Kv_ob (Kv_c rfl (hX _ _ _ _ _)) (fun _ h347 => Kv_so h347))
  | 14 => exact Kv_od (fun _ => Kv_ob (Kv_c rfl (hX _ _ _ _ _)) (fun _ h348 => Kv_so h348))
  | 15 => exact Kv_od (fun _ => Kv_ob (Kv_c rfl (hX _ _ _ _ _)) (fun _ h349 => Kv_so h349))
  | 16 => exact Kv_ite (Kv_od (fun _ => Kv_ob (Kv_c rfl (hX _ _ _ _ _)) (fun _ h350 => Kv_ite (Kv_ob (Kv_c h350 (kv_sweep _ _ _ _)) (fun _ h351 => Kv_ob (Kv_c h351 (kv_pop _ _ _ _)) (fun _ h352 => Kv_ob (Kv_c h352 (kv_single _ _ _ _)) (fun _ h353 => Kv_ob (Kv_c h353 (kv_answer _ _ _ _)) (fun _ h354 => Kv_ob (Kv_c h354 (kv_push _ _ _ _)) (fun _ h355 => Kv_c h355 (hX _ _ _ _ _))))))) (Kv_c h350 (hX _ _ _ _ _))))) (Kv_no _)
  | 17 => exact Kv_so rfl
  | b + 18 => exact Kv_no _
theorem kv_s_bounds {X : Nat → Nat → Nat → (Nat → Int32) → MS → Option (Int32 × MS)} (hX : ∀ e m b L (σ : MS), Kv (X e m b L σ) (kv σ)) (k d b : Nat) (L : Nat → Int32) (σ : MS) : Kv (s_bounds X k d b L σ) (kv σ) := by
  match b with
  | 0 => exact Kv_ite (Kv_od (fun _ => Kv_ob (Kv_c rfl (hX _ _ _ _ _)) (fun _ h356 => Kv_ite (Kv_ite (Kv_c h356 (hX _ _ _ _ _)) (Kv_ite (Kv_ite (Kv_od (fun _ => Kv_ob (Kv_c h356 (hX _ _ _ _ _)) (fun _ h357 => Kv_c h357 (hX _ _ _ _ _)))) (Kv_no _)) (Kv_c h356 (hX _ _ _ _ _)))) (Kv_no _)))) (Kv_no _)
  | 1 => exact Kv_ite (Kv_ite (Kv_od (fun _ => Kv_ob (Kv_c rfl (hX _ _ _ _ _)) (fun _ h358 => Kv_c h358 (hX _ _ _ _ _)))) (Kv_no _)) (Kv_c rfl (hX _ _ _ _ _))
  | 2 => exact Kv_ite (Kv_ob (Kv_c rfl (kv_sweep _ _ _ _)) (fun _ h359 => Kv_ite (Kv_ite (Kv_c h359 (hX _ _ _ _ _)) (Kv_c h359 (hX _ _ _ _ _))) (Kv_no _))) (Kv_c rfl (hX _ _ _ _ _))
  | 3 => exact Kv_c rfl (hX _ _ _ _ _)
  | 4 => exact Kv_ite (Kv_ite (Kv_c rfl (hX _ _ _ _ _)) (Kv_c rfl (hX _ _ _ _ _))) (Kv_no _)
  | 5 => exact Kv_c rfl (hX _ _ _ _ _)
  | 6 => exact Kv_ob (Kv_c rfl (kv_range _ _ _ _)) (fun _ h360 => Kv_ob (Kv_c h360 (kv_answer _ _ _ _)) (fun _ h361 => Kv_ob (Kv_c h361 (kv_push _ _ _ _)) (fun _ h362 => Kv_c h362 (hX _ _ _ _ _))))
  | 7 => exact Kv_so rfl
  | b + 8 => exact Kv_no _
theorem kv_s_callFunc {X : Nat → Nat → Nat → (Nat → Int32) → MS → Option (Int32 × MS)} (hX : ∀ e m b L (σ : MS), Kv (X e m b L σ) (kv σ)) (k d b : Nat) (L : Nat → Int32) (σ : MS) : Kv (s_callFunc X k d b L σ) (kv σ) := by
  match b with
  | 0 => exact Kv_ite (Kv_c rfl (hX _ _ _ _ _)) (Kv_no _)
  | 1 => exact Kv_ite (Kv_c rfl (hX _ _ _ _ _)) (Kv_ite (Kv_od (fun _ => Kv_ob (Kv_c rfl (hX _ _ _ _ _)) (fun _ h363 => Kv_ite (Kv_c h363 (hX _ _ _ _ _)) (Kv_no _)))) (Kv_c rfl (hX _ _ _ _ _)))
  | 2 => exact Kv_ite (Kv_c rfl (hX _ _ _ _ _)) (Kv_so rfl)
  | 3 => exact Kv_ite (Kv_c rfl (hX _ _ _ _ _)) (Kv_ite (Kv_ite (Kv_c rfl (hX _ _ _ _ _)) (Kv_c rfl (hX _ _ _ _ _))) (Kv_no _))
  | 4 => exact Kv_ob (Kv_c rfl (kv_fail _ _ _ _)) (fun _ h364 => Kv_so h364)
  | 5 => exact Kv_ob (Kv_c rfl (kv_sweep _ _ _ _)) (fun _ h365 => Kv_ite (Kv_c h365 (hX _ _ _ _ _)) (Kv_no _))
  | 6 => exact Kv_ite (Kv_c rfl (hX _ _ _ _ _)) (Kv_no _)
  | 7 => exact Kv_c rfl (hX _ _ _ _ _)
  | 8 => exact Kv_c rfl (hX _ _ _ _ _)
  | 9 => exact Kv_c rfl (hX _ _ _ _ _)
  | 10 => exact Kv_ite (Kv_c rfl (hX _ _ _ _ _)) (Kv_ite (Kv_ite (Kv_c rfl (hX _ _ _ _ _)) (Kv_ite (Kv_c rfl (hX _ _ _ _ _)) (Kv_no _))) (Kv_no _))
  | 11 => exact Kv_c rfl (hX _ _ _ _ _)
  | 12 => exact Kv_ite (Kv_c rfl (hX _ _ _ _ _)) (Kv_no _)
  | 13 => exact Kv_c rfl (hX _ _ _ _ _)
  | 14 => exact Kv_c rfl (hX _ _ _ _ _)
  | 15 => exact Kv_ite (Kv_od (fun _ => Kv_ob (Kv_c rfl (hX _ _ _ _ _)) (fun _ h366 => Kv_c h366 (hX _ _ _ _ _)))) (Kv_no _)
  | 16 => exact Kv_ite (Kv_c rfl (hX _ _ _ _ _)) (Kv_ite (Kv_c rfl (hX _ _ _ _ _)) (Kv_no _))
  | 17 => exact Kv_c rfl (hX _ _ _ _ _)
  | 18 => exact Kv_c rfl (hX _ _ _ _ _)
  | 19 => exact Kv_ite (Kv_c rfl (hX _ _ _ _ _)) (Kv_no _)
  | 20 => exact Kv_c rfl (hX _ _ _ _ _)
  | 21 => exact Kv_ite (Kv_c rfl (hX _ _ _ _ _)) (Kv_no _)
  | 22 => exact Kv_ite (Kv_ite (Kv_ob (Kv_c rfl (kv_answer _ _ _ _)) (fun _ h367 => Kv_c h367 (hX _ _ _ _ _))) (Kv_no _)) (Kv_c rfl (hX _ _ _ _ _))
  | 23 => exact Kv_so rfl
  | b + 24 => exact Kv_no _
theorem kv_s_choose {X : Nat → Nat → Nat → (Nat → Int32) → MS → Option (Int32 × MS)} (hX : ∀ e m b L (σ : MS), Kv (X e m b L σ) (kv σ)) (k d b : Nat) (L : Nat → Int32) (σ : MS) : Kv (s_choose X k d b L σ) (kv σ) := by
  match b with
  | 0 => exact Kv_ite (Kv_c rfl (hX _ _ _ _ _)) (Kv_no _)
  | 1 => exact Kv_ite (Kv_c rfl (hX _ _ _ _ _)) (Kv_ite (Kv_ite (Kv_ite (Kv_c rfl (hX _ _ _ _ _)) (Kv_ite (Kv_od (fun _ => Kv_ob (Kv_c rfl (hX _ _ _ _ _)) (fun _ h368 => Kv_ite (Kv_c h368 (hX _ _ _ _ _)) (Kv_c h368 (hX _ _ _ _ _))))) (Kv_no _))) (Kv_no _)) (Kv_c rfl (hX _ _ _ _ _)))
  | 2 => exact Kv_c rfl (hX _ _ _ _ _)
  | 3 => exact Kv_ite (Kv_c rfl (hX _ _ _ _ _)) (Kv_no _)
  | 4 => exact Kv_ite (Kv_ite (Kv_od (fun _ => Kv_ob (Kv_c rfl (hX _ _ _ _ _)) (fun _ h369 => Kv_c h369 (hX _ _ _ _ _)))) (Kv_no _)) (Kv_c rfl (hX _ _ _ _ _))
  | 5 => exact Kv_so rfl
  | b + 6 => exact Kv_no _
theorem kv_s_eval {X : Nat → Nat → Nat → (Nat → Int32) → MS → Option (Int32 × MS)} (hX : ∀ e m b L (σ : MS), Kv (X e m b L σ) (kv σ)) (k d b : Nat) (L : Nat → Int32) (σ : MS) : Kv (s_eval X k d b L σ) (kv σ) := by
  match b with
  | 0 => exact Kv_c rfl (hX _ _ _ _ _)
  | 1 => exact Kv_ite (Kv_ob (Kv_c rfl (kv_isOver _ _ _ _)) (fun _ h370 => Kv_ite (Kv_c h370 (hX _ _ _ _ _)) (Kv_ite (Kv_c h370 (hX _ _ _ _ _)) (Kv_no _)))) (Kv_no _)
  | 2 => exact Kv_od (fun _ => Kv_ob (Kv_c rfl (hX _ _ _ _ _)) (fun _ h371 => Kv_c h371 (hX _ _ _ _ _)))
  | 3 => exact Kv_ite (Kv_c rfl (hX _ _ _ _ _)) (Kv_ite (Kv_ite (Kv_od (fun _ => Kv_ob (Kv_c rfl (hX _ _ _ _ _)) (fun _ h372 => Kv_c h372 (hX _ _ _ _ _)))) (Kv_no _)) (Kv_c rfl (hX _ _ _ _ _)))
  | 4 => exact Kv_so rfl
  | b + 5 => exact Kv_no _
theorem kv_s_former {X : Nat → Nat → Nat → (Nat → Int32) → MS → Option (Int32 × MS)} (hX : ∀ e m b L (σ : MS), Kv (X e m b L σ) (kv σ)) (k d b : Nat) (L : Nat → Int32) (σ : MS) : Kv (s_former X k d b L σ) (kv σ) := by
  match b with
  | 0 => exact Kv_ite (Kv_od (fun _ => Kv_ob (Kv_c rfl (hX _ _ _ _ _)) (fun _ h373 => Kv_c h373 (hX _ _ _ _ _)))) (Kv_no _)
  | 1 => exact Kv_ite (Kv_c rfl (hX _ _ _ _ _)) (Kv_ite (Kv_ite (Kv_ite (Kv_c rfl (hX _ _ _ _ _)) (Kv_ite (Kv_od (fun _ => Kv_ob (Kv_c rfl (hX _ _ _ _ _)) (fun _ h374 => Kv_ite (Kv_c h374 (hX _ _ _ _ _)) (Kv_c h374 (hX _ _ _ _ _))))) (Kv_no _))) (Kv_no _)) (Kv_c rfl (hX _ _ _ _ _)))
  | 2 => exact Kv_ite (Kv_od (fun _ => Kv_ob (Kv_c rfl (hX _ _ _ _ _)) (fun _ h375 => Kv_ite (Kv_ite (Kv_ite (Kv_ite (Kv_ite (Kv_ob (Kv_c h375 (kv_fail _ _ _ _)) (fun _ h376 => Kv_c h376 (hX _ _ _ _ _))) (Kv_c h375 (hX _ _ _ _ _))) (Kv_no _)) (Kv_c h375 (hX _ _ _ _ _))) (Kv_no _)) (Kv_c h375 (hX _ _ _ _ _))))) (Kv_no _)
  | 3 => exact Kv_ite (Kv_ite (Kv_od (fun _ => Kv_ob (Kv_c rfl (hX _ _ _ _ _)) (fun _ h377 => Kv_ite (Kv_c h377 (hX _ _ _ _ _)) (Kv_c h377 (hX _ _ _ _ _))))) (Kv_no _)) (Kv_c rfl (hX _ _ _ _ _))
  | 4 => exact Kv_c rfl (hX _ _ _ _ _)
  | 5 => exact Kv_c rfl (hX _ _ _ _ _)
  | 6 => exact Kv_c rfl (hX _ _ _ _ _)
  | 7 => exact Kv_ite (Kv_ob (Kv_c rfl (kv_clear _ _ _ _)) (fun _ h378 => Kv_ite (Kv_ite (Kv_ite (Kv_ob (Kv_c h378 (kv_setOf _ _ _ _)) (fun _ h379 => Kv_c h379 (hX _ _ _ _ _))) (Kv_c h378 (hX _ _ _ _ _))) (Kv_no _)) (Kv_c h378 (hX _ _ _ _ _)))) (Kv_no _)
  | 8 => exact Kv_ob (Kv_c rfl (kv_tupleOf _ _ _ _)) (fun _ h380 => Kv_c h380 (hX _ _ _ _ _))
  | 9 => exact Kv_ob (Kv_c rfl (kv_answer _ _ _ _)) (fun _ h381 => Kv_ob (Kv_c h381 (kv_push _ _ _ _)) (fun _ h382 => Kv_c h382 (hX _ _ _ _ _)))
  | 10 => exact Kv_so rfl
  | b + 11 => exact Kv_no _
theorem kv_s_goOn {X : Nat → Nat → Nat → (Nat → Int32) → MS → Option (Int32 × MS)} (hX : ∀ e m b L (σ : MS), Kv (X e m b L σ) (kv σ)) (k d b : Nat) (L : Nat → Int32) (σ : MS) : Kv (s_goOn X k d b L σ) (kv σ) := by
  match b with
  | 0 => exact Kv_c rfl (hX _ _ _ _ _)
  | 1 => exact Kv_ite (Kv_ob (Kv_c rfl (kv_sweep _ _ _ _)) (fun _ h383 => Kv_ite (Kv_c h383 (hX _ _ _ _ _)) (Kv_ite (Kv_c h383 (hX _ _ _ _ _)) (Kv_c h383 (hX _ _ _ _ _))))) (Kv_c rfl (hX _ _ _ _ _))
  | 2 => exact Kv_ite (Kv_ite (Kv_c rfl (hX _ _ _ _ _)) (Kv_no _)) (Kv_no _)
  | 3 => exact Kv_ite (Kv_so rfl) (Kv_c rfl (hX _ _ _ _ _))
  | 4 => exact Kv_od (fun _ => Kv_ob (Kv_c rfl (hX _ _ _ _ _)) (fun _ h384 => Kv_ite (Kv_c h384 (hX _ _ _ _ _)) (Kv_so h384)))
  | 5 => exact Kv_ite (Kv_c rfl (hX _ _ _ _ _)) (Kv_no _)
  | 6 => exact Kv_ite (Kv_so rfl) (Kv_c rfl (hX _ _ _ _ _))
  | 7 => exact Kv_ite (Kv_ob (Kv_c rfl (kv_stepIter _ _ _ _)) (fun _ h385 => Kv_ite (Kv_ite (Kv_c h385 (hX _ _ _ _ _)) (Kv_c h385 (hX _ _ _ _ _))) (Kv_c h385 (hX _ _ _ _ _)))) (Kv_no _)
  | 8 => exact Kv_ite (Kv_c rfl (hX _ _ _ _ _)) (Kv_ite (Kv_ite (Kv_ite (Kv_so rfl) (Kv_c rfl (hX _ _ _ _ _))) (Kv_no _)) (Kv_no _))
  | 9 => exact Kv_so rfl
  | b + 10 => exact Kv_no _
theorem kv_s_goesOn {X : Nat → Nat → Nat → (Nat → Int32) → MS → Option (Int32 × MS)} (hX : ∀ e m b L (σ : MS), Kv (X e m b L σ) (kv σ)) (k d b : Nat) (L : Nat → Int32) (σ : MS) : Kv (s_goesOn X k d b L σ) (kv σ) := by
  match b with
  | 0 => exact Kv_ite (Kv_ite (Kv_so rfl) (Kv_c rfl (hX _ _ _ _ _))) (Kv_no _)
  | 1 => exact Kv_ite (Kv_c rfl (hX _ _ _ _ _)) (Kv_ite (Kv_c rfl (hX _ _ _ _ _)) (Kv_c rfl (hX _ _ _ _ _)))
  | 2 => exact Kv_ob (Kv_c rfl (kv_isTrue _ _ _ _)) (fun _ h386 => Kv_ite (Kv_ite (Kv_c h386 (hX _ _ _ _ _)) (Kv_c h386 (hX _ _ _ _ _))) (Kv_c h386 (hX _ _ _ _ _)))
  | 3 => exact Kv_c rfl (hX _ _ _ _ _)
  | 4 => exact Kv_ite (Kv_ite (Kv_od (fun _ => Kv_ob (Kv_c rfl (hX _ _ _ _ _)) (fun _ h387 => Kv_ite (Kv_ob (Kv_c h387 (kv_isTrue _ _ _ _)) (fun _ h388 => Kv_ite (Kv_c h388 (hX _ _ _ _ _)) (Kv_c h388 (hX _ _ _ _ _)))) (Kv_c h387 (hX _ _ _ _ _))))) (Kv_no _)) (Kv_c rfl (hX _ _ _ _ _))
  | 5 => exact Kv_c rfl (hX _ _ _ _ _)
  | 6 => exact Kv_c rfl (hX _ _ _ _ _)
  | 7 => exact Kv_ob (Kv_c rfl (kv_truth _ _ _ _)) (fun _ h389 => Kv_ob (Kv_c h389 (kv_answer _ _ _ _)) (fun _ h390 => Kv_ob (Kv_c h390 (kv_push _ _ _ _)) (fun _ h391 => Kv_so h391)))
  | 8 => exact Kv_ite (Kv_od (fun _ => Kv_ob (Kv_c rfl (hX _ _ _ _ _)) (fun _ h392 => Kv_ite (Kv_ite (Kv_ite (Kv_od (fun _ => Kv_ob (Kv_c h392 (hX _ _ _ _ _)) (fun _ h393 => Kv_c h393 (hX _ _ _ _ _)))) (Kv_no _)) (Kv_c h392 (hX _ _ _ _ _))) (Kv_c h392 (hX _ _ _ _ _))))) (Kv_no _)
  | 9 => exact Kv_ite (Kv_c rfl (hX _ _ _ _ _)) (Kv_so rfl)
  | 10 => exact Kv_ob (Kv_c rfl (kv_sweep _ _ _ _)) (fun _ h394 => Kv_ite (Kv_c h394 (hX _ _ _ _ _)) (Kv_c h394 (hX _ _ _ _ _)))
  | 11 => exact Kv_c rfl (hX _ _ _ _ _)
  | 12 => exact Kv_c rfl (hX _ _ _ _ _)
  | 13 => exact Kv_ite (Kv_ite (Kv_ite (Kv_c rfl (hX _ _ _ _ _)) (Kv_ite (Kv_c rfl (hX _ _ _ _ _)) (Kv_ite (Kv_c rfl (hX _ _ _ _ _)) (Kv_c rfl (hX _ _ _ _ _))))) (Kv_no _)) (Kv_no _)
  | 14 => exact Kv_ite (Kv_ob (Kv_c rfl (kv_slice _ _ _ _)) (fun _ h395 => Kv_c h395 (hX _ _ _ _ _))) (Kv_no _)
  | 15 => exact Kv_ob (Kv_c rfl (kv_partAt _ _ _ _)) (fun _ h396 => Kv_c h396 (hX _ _ _ _ _))
  | 16 => exact Kv_ob (Kv_c rfl (kv_image _ _ _ _)) (fun _ h397 => Kv_c h397 (hX _ _ _ _ _))
  | 17 => exact Kv_ite (Kv_ob (Kv_c rfl (kv_operate _ _ _ _)) (fun _ h398 => Kv_c h398 (hX _ _ _ _ _))) (Kv_no _)
  | 18 => exact Kv_ob (Kv_c rfl (kv_answer _ _ _ _)) (fun _ h399 => Kv_ob (Kv_c h399 (kv_push _ _ _ _)) (fun _ h400 => Kv_so h400))
  | b + 19 => exact Kv_no _
theorem kv_s_holds {X : Nat → Nat → Nat → (Nat → Int32) → MS → Option (Int32 × MS)} (hX : ∀ e m b L (σ : MS), Kv (X e m b L σ) (kv σ)) (k d b : Nat) (L : Nat → Int32) (σ : MS) : Kv (s_holds X k d b L σ) (kv σ) := by
  match b with
  | 0 => exact Kv_od (fun _ => Kv_ob (Kv_c rfl (hX _ _ _ _ _)) (fun _ h401 => Kv_ite (Kv_ob (Kv_c h401 (kv_isTrue _ _ _ _)) (fun _ h402 => Kv_ite (Kv_c h402 (hX _ _ _ _ _)) (Kv_c h402 (hX _ _ _ _ _)))) (Kv_c h401 (hX _ _ _ _ _))))
  | 1 => exact Kv_c rfl (hX _ _ _ _ _)
  | 2 => exact Kv_ite (Kv_so rfl) (Kv_no _)
  | b + 3 => exact Kv_no _
theorem kv_s_openIter {X : Nat → Nat → Nat → (Nat → Int32) → MS → Option (Int32 × MS)} (hX : ∀ e m b L (σ : MS), Kv (X e m b L σ) (kv σ)) (k d b : Nat) (L : Nat → Int32) (σ : MS) : Kv (s_openIter X k d b L σ) (kv σ) := by
  match b with
  | 0 => exact Kv_ite (Kv_od (fun _ => Kv_ob (Kv_c rfl (hX _ _ _ _ _)) (fun _ h403 => Kv_ite (Kv_c h403 (hX _ _ _ _ _)) (Kv_so h403)))) (Kv_no _)
  | 1 => exact Kv_ob (Kv_c rfl (kv_pop _ _ _ _)) (fun _ h404 => Kv_ob (Kv_c h404 (kv_isRow _ _ _ _)) (fun _ h405 => Kv_ite (Kv_ob (Kv_c h405 (kv_fail _ _ _ _)) (fun _ h406 => Kv_so h406)) (Kv_c h405 (hX _ _ _ _ _))))
  | 2 => exact Kv_ite (Kv_c rfl (hX _ _ _ _ _)) (Kv_no _)
  | 3 => exact Kv_ite (Kv_c rfl (hX _ _ _ _ _)) (Kv_no _)
  | 4 => exact Kv_so rfl
  | b + 5 => exact Kv_no _
theorem kv_s_quantify {X : Nat → Nat → Nat → (Nat → Int32) → MS → Option (Int32 × MS)} (hX : ∀ e m b L (σ : MS), Kv (X e m b L σ) (kv σ)) (k d b : Nat) (L : Nat → Int32) (σ : MS) : Kv (s_quantify X k d b L σ) (kv σ) := by
  match b with
  | 0 => exact Kv_ite (Kv_ite (Kv_c rfl (hX _ _ _ _ _)) (Kv_c rfl (hX _ _ _ _ _))) (Kv_no _)
  | 1 => exact Kv_c rfl (hX _ _ _ _ _)
  | 2 => exact Kv_ite (Kv_od (fun _ => Kv_ob (Kv_c rfl (hX _ _ _ _ _)) (fun _ h407 => Kv_c h407 (hX _ _ _ _ _)))) (Kv_no _)
  | 3 => exact Kv_ite (Kv_c rfl (hX _ _ _ _ _)) (Kv_ite (Kv_ite (Kv_od (fun _ => Kv_ob (Kv_c rfl (hX _ _ _ _ _)) (fun _ h408 => Kv_ite (Kv_ite (Kv_c h408 (hX _ _ _ _ _)) (Kv_c h408 (hX _ _ _ _ _))) (Kv_c h408 (hX _ _ _ _ _))))) (Kv_no _)) (Kv_c rfl (hX _ _ _ _ _)))
  | 4 => exact Kv_c rfl (hX _ _ _ _ _)
  | 5 => exact Kv_ite (Kv_ite (Kv_ite (Kv_od (fun _ => Kv_ob (Kv_c rfl (hX _ _ _ _ _)) (fun _ h409 => Kv_ite (Kv_c h409 (hX _ _ _ _ _)) (Kv_c h409 (hX _ _ _ _ _))))) (Kv_no _)) (Kv_c rfl (hX _ _ _ _ _))) (Kv_c rfl (hX _ _ _ _ _))
  | 6 => exact Kv_c rfl (hX _ _ _ _ _)
  | 7 => exact Kv_c rfl (hX _ _ _ _ _)
  | 8 => exact Kv_c rfl (hX _ _ _ _ _)
  | 9 => exact Kv_ite (Kv_ob (Kv_c rfl (kv_clear _ _ _ _)) (fun _ h410 => Kv_ite (Kv_ite (Kv_c h410 (hX _ _ _ _ _)) (Kv_c h410 (hX _ _ _ _ _))) (Kv_c h410 (hX _ _ _ _ _)))) (Kv_no _)
  | 10 => exact Kv_c rfl (hX _ _ _ _ _)
  | 11 => exact Kv_ob (Kv_c rfl (kv_truth _ _ _ _)) (fun _ h411 => Kv_ob (Kv_c h411 (kv_answer _ _ _ _)) (fun _ h412 => Kv_ob (Kv_c h412 (kv_push _ _ _ _)) (fun _ h413 => Kv_c h413 (hX _ _ _ _ _))))
  | 12 => exact Kv_so rfl
  | b + 13 => exact Kv_no _
theorem kv_s_setBrackets {X : Nat → Nat → Nat → (Nat → Int32) → MS → Option (Int32 × MS)} (hX : ∀ e m b L (σ : MS), Kv (X e m b L σ) (kv σ)) (k d b : Nat) (L : Nat → Int32) (σ : MS) : Kv (s_setBrackets X k d b L σ) (kv σ) := by
  match b with
  | 0 => exact Kv_ite (Kv_c rfl (hX _ _ _ _ _)) (Kv_no _)
  | 1 => exact Kv_ite (Kv_c rfl (hX _ _ _ _ _)) (Kv_ite (Kv_od (fun _ => Kv_ob (Kv_c rfl (hX _ _ _ _ _)) (fun _ h414 => Kv_ite (Kv_ite (Kv_ite (Kv_c h414 (hX _ _ _ _ _)) (Kv_c h414 (hX _ _ _ _ _))) (Kv_no _)) (Kv_c h414 (hX _ _ _ _ _))))) (Kv_c rfl (hX _ _ _ _ _)))
  | 2 => exact Kv_ite (Kv_c rfl (hX _ _ _ _ _)) (Kv_c rfl (hX _ _ _ _ _))
  | 3 => exact Kv_c rfl (hX _ _ _ _ _)
  | 4 => exact Kv_c rfl (hX _ _ _ _ _)
  | 5 => exact Kv_ite (Kv_ite (Kv_ite (Kv_c rfl (hX _ _ _ _ _)) (Kv_c rfl (hX _ _ _ _ _))) (Kv_c rfl (hX _ _ _ _ _))) (Kv_c rfl (hX _ _ _ _ _))
  | 6 => exact Kv_c rfl (hX _ _ _ _ _)
  | 7 => exact Kv_ite (Kv_ob (Kv_c rfl (kv_distinct _ _ _ _)) (fun _ h415 => Kv_c h415 (hX _ _ _ _ _))) (Kv_c rfl (hX _ _ _ _ _))
  | 8 => exact Kv_ite (Kv_c rfl (hX _ _ _ _ _)) (Kv_ite (Kv_ob (Kv_c rfl (kv_size _ _ _ _)) (fun _ h416 => Kv_c h416 (hX _ _ _ _ _))) (Kv_no _))
  | 9 => exact Kv_ite (Kv_c rfl (hX _ _ _ _ _)) (Kv_c rfl (hX _ _ _ _ _))
  | 10 => exact Kv_c rfl (hX _ _ _ _ _)
  | 11 => exact Kv_ite (Kv_c rfl (hX _ _ _ _ _)) (Kv_c rfl (hX _ _ _ _ _))
  | 12 => exact Kv_c rfl (hX _ _ _ _ _)
  | 13 => exact Kv_c rfl (hX _ _ _ _ _)
  | 14 => exact Kv_ite (Kv_c rfl (hX _ _ _ _ _)) (Kv_no _)
  | 15 => exact Kv_ite (Kv_ite (Kv_c rfl (hX _ _ _ _ _)) (Kv_ob (Kv_c rfl (kv_fail _ _ _ _)) (fun _ h417 => Kv_c h417 (hX _ _ _ _ _)))) (Kv_c rfl (hX _ _ _ _ _))
  | 16 => exact Kv_ite (Kv_ite (Kv_c rfl (hX _ _ _ _ _)) (Kv_ob (Kv_c rfl (kv_fail _ _ _ _)) (fun _ h418 => Kv_c h418 (hX _ _ _ _ _)))) (Kv_c rfl (hX _ _ _ _ _))
  | 17 => exact Kv_ite (Kv_ob (Kv_c rfl (kv_sweep _ _ _ _)) (fun _ h419 => Kv_ob (Kv_c h419 (kv_setOf _ _ _ _)) (fun _ h420 => Kv_ob (Kv_c h420 (kv_answer _ _ _ _)) (fun _ h421 => Kv_ob (Kv_c h421 (kv_push _ _ _ _)) (fun _ h422 => Kv_c h422 (hX _ _ _ _ _)))))) (Kv_c rfl (hX _ _ _ _ _))
  | 18 => exact Kv_so rfl
  | b + 19 => exact Kv_no _
theorem kv_s_tupleBrackets {X : Nat → Nat → Nat → (Nat → Int32) → MS → Option (Int32 × MS)} (hX : ∀ e m b L (σ : MS), Kv (X e m b L σ) (kv σ)) (k d b : Nat) (L : Nat → Int32) (σ : MS) : Kv (s_tupleBrackets X k d b L σ) (kv σ) := by
  match b with
  | 0 => exact Kv_ite (Kv_c rfl (hX _ _ _ _ _)) (Kv_no _)
  | 1 => exact Kv_ite (Kv_c rfl (hX _ _ _ _ _)) (Kv_ite (Kv_od (fun _ => Kv_ob (Kv_c rfl (hX _ _ _ _ _)) (fun _ h423 => Kv_ite (Kv_ob (Kv_c h423 (kv_pop _ _ _ _)) (fun _ h424 => Kv_c h424 (hX _ _ _ _ _))) (Kv_c h423 (hX _ _ _ _ _))))) (Kv_c rfl (hX _ _ _ _ _)))
  | 2 => exact Kv_c rfl (hX _ _ _ _ _)
  | 3 => exact Kv_ite (Kv_c rfl (hX _ _ _ _ _)) (Kv_c rfl (hX _ _ _ _ _))
  | 4 => exact Kv_ite (Kv_c rfl (hX _ _ _ _ _)) (Kv_ob (Kv_c rfl (kv_size _ _ _ _)) (fun _ h425 => Kv_c h425 (hX _ _ _ _ _)))
  | 5 => exact Kv_ite (Kv_c rfl (hX _ _ _ _ _)) (Kv_ite (Kv_c rfl (hX _ _ _ _ _)) (Kv_ob (Kv_c rfl (kv_push _ _ _ _)) (fun _ h426 => Kv_c h426 (hX _ _ _ _ _))))
  | 6 => exact Kv_ob (Kv_c rfl (kv_push _ _ _ _)) (fun _ h427 => Kv_c h427 (hX _ _ _ _ _))
  | 7 => exact Kv_ite (Kv_c rfl (hX _ _ _ _ _)) (Kv_c rfl (hX _ _ _ _ _))
  | 8 => exact Kv_c rfl (hX _ _ _ _ _)
  | 9 => exact Kv_c rfl (hX _ _ _ _ _)
  | 10 => exact Kv_ite (Kv_c rfl (hX _ _ _ _ _)) (Kv_no _)
  | 11 => exact Kv_ite (Kv_ite (Kv_c rfl (hX _ _ _ _ _)) (Kv_ob (Kv_c rfl (kv_fail _ _ _ _)) (fun _ h428 => Kv_c h428 (hX _ _ _ _ _)))) (Kv_c rfl (hX _ _ _ _ _))
  | 12 => exact Kv_ite (Kv_ob (Kv_c rfl (kv_sweep _ _ _ _)) (fun _ h429 => Kv_ob (Kv_c h429 (kv_tupleOf _ _ _ _)) (fun _ h430 => Kv_ob (Kv_c h430 (kv_answer _ _ _ _)) (fun _ h431 => Kv_ob (Kv_c h431 (kv_push _ _ _ _)) (fun _ h432 => Kv_c h432 (hX _ _ _ _ _)))))) (Kv_c rfl (hX _ _ _ _ _))
  | 13 => exact Kv_so rfl
  | b + 14 => exact Kv_no _
theorem kv_GV : ∀ (k d m b : Nat) (L : Nat → Int32) (σ : MS), Kv (x_GV k d m b L σ) (kv σ) := by
  intro k
  induction k with
  | zero => intro d m b L σ; exact Kv_no _
  | succ k ih =>
    intro d m b L σ
    match m with
    | 0 => exact kv_s_begins ih k d b L σ
    | 1 => exact kv_s_bounds ih k d b L σ
    | 2 => exact kv_s_callFunc ih k d b L σ
    | 3 => exact kv_s_choose ih k d b L σ
    | 4 => exact kv_s_eval ih k d b L σ
    | 5 => exact kv_s_former ih k d b L σ
    | 6 => exact kv_s_goOn ih k d b L σ
    | 7 => exact kv_s_goesOn ih k d b L σ
    | 8 => exact kv_s_holds ih k d b L σ
    | 9 => exact kv_s_openIter ih k d b L σ
    | 10 => exact kv_s_quantify ih k d b L σ
    | 11 => exact kv_s_setBrackets ih k d b L σ
    | 12 => exact kv_s_tupleBrackets ih k d b L σ
    | m + 13 => exact Kv_no _
theorem kv_eval (k b : Nat) (L : Nat → Int32) (σ : MS) : Kv (x_eval k b L σ) (kv σ) := kv_GV k 1300 4 b L σ
theorem kv_forget : ∀ (k b : Nat) (L : Nat → Int32) (σ : MS), Kv (x_forget k b L σ) (kv σ) := by
  intro k
  induction k with
  | zero => intro b L σ; exact Kv_no _
  | succ k ih =>
    intro b L σ
    match b with
    | 0 =>
      refine Kv_eq (by rw [x_forget]) ?_
      exact Kv_c rfl (ih _ _ _)
    | 1 =>
      refine Kv_eq (by rw [x_forget]) ?_
      exact Kv_ite (Kv_c rfl (ih _ _ _)) (Kv_ite (Kv_c rfl (ih _ _ _)) (Kv_no _))
    | 2 =>
      refine Kv_eq (by rw [x_forget]) ?_
      exact Kv_c rfl (ih _ _ _)
    | 3 =>
      refine Kv_eq (by rw [x_forget]) ?_
      exact Kv_c rfl (ih _ _ _)
    | 4 =>
      refine Kv_eq (by rw [x_forget]) ?_
      exact Kv_ite (Kv_c rfl (ih _ _ _)) (Kv_ite (Kv_ite (Kv_c rfl (ih _ _ _)) (Kv_ite (Kv_c rfl (ih _ _ _)) (Kv_no _))) (Kv_no _))
    | 5 =>
      refine Kv_eq (by rw [x_forget]) ?_
      exact Kv_c rfl (ih _ _ _)
    | 6 =>
      refine Kv_eq (by rw [x_forget]) ?_
      exact Kv_ite (Kv_c rfl (ih _ _ _)) (Kv_no _)
    | 7 =>
      refine Kv_eq (by rw [x_forget]) ?_
      exact Kv_c rfl (ih _ _ _)
    | 8 =>
      refine Kv_eq (by rw [x_forget]) ?_
      exact Kv_c rfl (ih _ _ _)
    | 9 =>
      refine Kv_eq (by rw [x_forget]) ?_
      exact Kv_ite (Kv_ite (Kv_c rfl (ih _ _ _)) (Kv_ite (Kv_c rfl (ih _ _ _)) (Kv_no _))) (Kv_no _)
    | 10 =>
      refine Kv_eq (by rw [x_forget]) ?_
      exact Kv_ite (Kv_c rfl (ih _ _ _)) (Kv_ite (Kv_ite (Kv_c rfl (ih _ _ _)) (Kv_ite (Kv_c rfl (ih _ _ _)) (Kv_no _))) (Kv_no _))
    | 11 =>
      refine Kv_eq (by rw [x_forget]) ?_
      exact Kv_c rfl (ih _ _ _)
    | 12 =>
      refine Kv_eq (by rw [x_forget]) ?_
      exact Kv_ite (Kv_c rfl (ih _ _ _)) (Kv_no _)
    | 13 =>
      refine Kv_eq (by rw [x_forget]) ?_
      exact Kv_c rfl (ih _ _ _)
    | 14 =>
      refine Kv_eq (by rw [x_forget]) ?_
      exact Kv_c rfl (ih _ _ _)
    | 15 =>
      refine Kv_eq (by rw [x_forget]) ?_
      exact Kv_so rfl
    | b + 16 =>
      refine Kv_eq (by rw [x_forget]) (Kv_no _)
theorem kv_workAlone : ∀ (k b : Nat) (L : Nat → Int32) (σ : MS), Kv (x_workAlone k b L σ) (kv σ) := by
  intro k
  induction k with
  | zero => intro b L σ; exact Kv_no _
  | succ k ih =>
    intro b L σ
    match b with
    | 0 =>
      refine Kv_eq (by rw [x_workAlone]) ?_
      exact Kv_c rfl (ih _ _ _)
    | 1 =>
      refine Kv_eq (by rw [x_workAlone]) ?_
      exact Kv_c rfl (ih _ _ _)
    | 2 =>
      refine Kv_eq (by rw [x_workAlone]) ?_
      exact Kv_c rfl (ih _ _ _)
    | 3 =>
      refine Kv_eq (by rw [x_workAlone]) ?_
      exact Kv_c rfl (ih _ _ _)
    | 4 =>
      refine Kv_eq (by rw [x_workAlone]) ?_
      exact Kv_c rfl (ih _ _ _)
    | 5 =>
      refine Kv_eq (by rw [x_workAlone]) ?_
      exact Kv_c rfl (ih _ _ _)
    | 6 =>
      refine Kv_eq (by rw [x_workAlone]) ?_
      exact Kv_c rfl (ih _ _ _)
    | 7 =>
      refine Kv_eq (by rw [x_workAlone]) ?_
      exact Kv_c rfl (ih _ _ _)
    | 8 =>
      refine Kv_eq (by rw [x_workAlone]) ?_
      exact Kv_ob (Kv_c rfl (kv_sweep _ _ _ _)) (fun _ h433 => Kv_ob (Kv_c h433 (kv_eval _ _ _ _)) (fun _ h434 => Kv_c h434 (ih _ _ _)))
    | 9 =>
      refine Kv_eq (by rw [x_workAlone]) ?_
      exact Kv_ite (Kv_c rfl (ih _ _ _)) (Kv_ob (Kv_c rfl (kv_forget _ _ _ _)) (fun _ h435 => Kv_c h435 (ih _ _ _)))
    | 10 =>
      refine Kv_eq (by rw [x_workAlone]) ?_
      exact Kv_so rfl
    | b + 11 =>
      refine Kv_eq (by rw [x_workAlone]) (Kv_no _)
