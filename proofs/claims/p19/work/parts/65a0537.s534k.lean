/-! How many procs a program has (made by k4.py): procedure alone counts them. -/
abbrev K4t := Int32 × Int32 × Option Bool
def k4w (σ : CS) : K4t := (σ.1 5004, σ.1 6804, sPp σ)
def K4 (w : K4t) (σ : CS) : Prop := k4w σ = w
section K4H
variable {w : K4t} {σ : CS}
theorem uI_K4 {j : Nat} {x : Int32} (hj : ¬ j = 5004 ∧ ¬ j = 6804) (h : K4 w σ) : K4 w (uI σ j x) := by
  unfold K4 k4w at h ⊢
  rw [uI_o (fun z => hj.1 z.symm), uI_o (fun z => hj.2 z.symm)]
  exact h
theorem fP_4 (b : Bool) {k : Nat} (h : k ≤ 20) (h4 : ¬ k = 4) : ¬ fP b k = 5004 ∧ ¬ fP b k = 6804 := by
  have e : fP true k = 5000 + k ∧ fP false k = 6800 + k := ⟨rfl, rfl⟩
  cases b
  · rw [e.2]; omega
  · rw [e.1]; omega
theorem uL_K4 {j : Nat} {x : Int64} (h : K4 w σ) : K4 w (uL σ j x) := h
theorem uJ_K4 {j i : Nat} {x : Int64} (h : K4 w σ) : K4 w (uJ σ j i x) := h
theorem uKd_K4 {b x : Bool} (h : K4 w σ) : K4 w (uKd σ b x) := h
theorem uPi_K4 {i r : Nat} (h : K4 w σ) : K4 w (uPi σ i r) := h
theorem uPr_K4 {b : Option Bool} (h : K4 w σ) : K4 w (uPr σ b) := h
theorem uC_K4 {b : Bool} {n : Nat} (h : K4 w σ) : K4 w (uC σ b n) := h
theorem uA_K4 {k i : Nat} {x : Int32} (h : K4 w σ) : K4 w (uA σ k i x) := h
theorem uF_K4 {k : Nat} {f : Nat → Int32} (h : K4 w σ) : K4 w (uF σ k f) := h
theorem uZ_K4 {k n : Nat} (h : K4 w σ) : K4 w (uZ σ k n) := h
end K4H
section K4C
variable {w : K4t}
/-- whatever comes back: its bytes are bytes -/
def Y4 (w : K4t) (x : Option (Int32 × CS)) : Prop := ∀ r, x = some r → K4 w r.2
def F4 (w : K4t) (x : Option RS) : Prop := ∀ r, x = some r → K4 w r.2.1
theorem Y4_no : Y4 w none := fun _ h => by cases h
theorem F4_no : F4 w none := fun _ h => by cases h
theorem Y4_so {a : Int32} {σ : CS} (h : K4 w σ) : Y4 w (some (a, σ)) := fun _ e => by cases e; exact h
theorem F4_so {a : Nat × Int32} {σ : CS} {q : Nat × Nat} (h : K4 w σ) : F4 w (some (a, σ, q)) := fun _ e => by cases e; exact h
theorem Y4_eq {a a' : Option (Int32 × CS)} (h1 : a = a') (h : Y4 w a') : Y4 w a := by rw [h1]; exact h
theorem F4_eq {a a' : Option RS} (h1 : a = a') (h : F4 w a') : F4 w a := by rw [h1]; exact h
theorem Y4_ite {c : Prop} {_ : Decidable c} {a b : Option (Int32 × CS)} (h1 : Y4 w a) (h2 : Y4 w b) : Y4 w (if c then a else b) := by
  by_cases h : c
  · rw [if_pos h]; exact h1
  · rw [if_neg h]; exact h2
theorem F4_ite {c : Prop} {_ : Decidable c} {a b : Option RS} (h1 : F4 w a) (h2 : F4 w b) : F4 w (if c then a else b) := by
  by_cases h : c
  · rw [if_pos h]; exact h1
  · rw [if_neg h]; exact h2
theorem Y4_oc {x : Option (Int32 × CS)} {f : Int32 × CS → Option (Int32 × CS)} (h1 : Y4 w x) (h2 : ∀ r, K4 w r.2 → Y4 w (f r)) : Y4 w (oc x f) := by
  intro r hr
  cases x with
  | none => cases hr
  | some s => exact h2 s (h1 s rfl) r hr
theorem F4_op {x : Option (Int32 × CS)} {f : Int32 × CS → Option RS} (h1 : Y4 w x) (h2 : ∀ r, K4 w r.2 → F4 w (f r)) : F4 w (Jvm.Pilot.CSetHouseLaw_law_r6264_2ea8b6.op x f) := by
  intro r hr
  cases x with
  | none => cases hr
  | some s => exact h2 s (h1 s rfl) r hr
theorem F4_ad {q : Nat × Nat} {y : Option RS} (h : F4 w y) : F4 w (adR q y) := by
  intro r hr
  cases y with
  | none => cases hr
  | some s =>
    have e : some (s.1, s.2.1, (q.1 + s.2.2.1, q.2 + s.2.2.2)) = some r := hr
    cases e
    exact h s rfl
theorem F4_ox {x : Option RS} {f : RS → Option RS} (h1 : F4 w x) (h2 : ∀ r, K4 w r.2.1 → F4 w (f r)) : F4 w (ox x f) := by
  cases x with
  | none => exact F4_no
  | some s =>
    have z := h1 s rfl
    show F4 w (if s.1.1 = 0 then adR s.2.2 (f s) else some s)
    refine F4_ite (F4_ad (h2 s z)) (fun r e => ?_)
    cases e
    exact z
theorem F4_oh {x : Option RS} {f g : RS → Option RS} (h1 : F4 w x) (h2 : ∀ r, K4 w r.2.1 → F4 w (f r)) (h3 : ∀ r, K4 w r.2.1 → F4 w (g r)) : F4 w (oh x f g) := by
  cases x with
  | none => exact F4_no
  | some s =>
    have z := h1 s rfl
    exact F4_ite (F4_ad (h2 s z)) (F4_ite (F4_ad (h3 s z)) F4_no)
theorem Y4_oe {d : Nat} {f : Nat → Option (Int32 × CS)} (h : ∀ e, Y4 w (f e)) : Y4 w (oe d f) := by
  cases d with
  | zero => exact Y4_no
  | succ e => exact h e
theorem F4_of {d : Nat} {f : Nat → Option RS} (h : ∀ e, F4 w (f e)) : F4 w (Jvm.Pilot.CSetHouseLaw_law_r6264_2ea8b6.of d f) := by
  cases d with
  | zero => exact F4_no
  | succ e => exact h e
theorem Y4_oB {x : Option Bool} {f : Bool → Option (Int32 × CS)} (h : ∀ e, Y4 w (f e)) : Y4 w (oB x f) := by
  cases x with
  | none => exact Y4_no
  | some e => exact h e
theorem F4_oP {x : Option Bool} {f : Bool → Option RS} (h : ∀ e, F4 w (f e)) : F4 w (oP x f) := by
  cases x with
  | none => exact F4_no
  | some e => exact h e
theorem F4_oN {x : Option Bool} {u v : Option RS} (h1 : F4 w u) (h2 : F4 w v) : F4 w (oN x u v) := by
  cases x with
  | none => exact h1
  | some e => exact h2
end K4C
section K4D
variable {w : K4t}
theorem k4_f_X2_advance : ∀ (k b : Nat) (L : LV) (σ : CS), K4 w σ → F4 w (f_X2_advance k b L σ) := by
  intro k
  induction k with
  | zero => intro b L σ _; exact F4_no
  | succ k ih =>
    intro b L σ hb
    match b with
    | 0 =>
      refine F4_eq (by rw [f_X2_advance]) ?_
      exact ih _ _ _ hb
    | 1 =>
      refine F4_eq (by rw [f_X2_advance]) ?_
      exact F4_ite (ih _ _ _ hb) (F4_ite (ih _ _ _ hb) (F4_ite (F4_ite (ih _ _ _ hb) (F4_ite (ih _ _ _ hb) (ih _ _ _ hb))) (F4_no)))
    | 2 =>
      refine F4_eq (by rw [f_X2_advance]) ?_
      exact F4_ite (ih _ _ _ (uI_K4 (by decide) hb)) (ih _ _ _ (uI_K4 (by decide) hb))
    | 3 =>
      refine F4_eq (by rw [f_X2_advance]) ?_
      exact F4_ite (F4_ite (F4_ite (ih _ _ _ hb) (ih _ _ _ hb)) (F4_no)) (ih _ _ _ hb)
    | 4 =>
      refine F4_eq (by rw [f_X2_advance]) ?_
      exact ih _ _ _ hb
    | 5 =>
      refine F4_eq (by rw [f_X2_advance]) ?_
      exact F4_ite (F4_ite (ih _ _ _ hb) (F4_ite (F4_ite (ih _ _ _ hb) (ih _ _ _ hb)) (F4_no))) (ih _ _ _ hb)
    | 6 =>
      refine F4_eq (by rw [f_X2_advance]) ?_
      exact ih _ _ _ hb
    | 7 =>
      refine F4_eq (by rw [f_X2_advance]) ?_
      exact F4_ite (ih _ _ _ (uI_K4 (by decide) hb)) (ih _ _ _ (uI_K4 (by decide) hb))
    | 8 =>
      refine F4_eq (by rw [f_X2_advance]) ?_
      exact ih _ _ _ hb
    | 9 =>
      refine F4_eq (by rw [f_X2_advance]) ?_
      exact ih _ _ _ hb
    | 10 =>
      refine F4_eq (by rw [f_X2_advance]) ?_
      exact ih _ _ _ hb
    | 11 =>
      refine F4_eq (by rw [f_X2_advance]) ?_
      exact F4_ite (F4_ite (ih _ _ _ hb) (ih _ _ _ hb)) (F4_no)
    | 12 =>
      refine F4_eq (by rw [f_X2_advance]) ?_
      exact F4_ite (F4_ite (ih _ _ _ (uL_K4 (uL_K4 (uI_K4 (by decide) hb)))) (ih _ _ _ (uI_K4 (by decide) hb))) (F4_no)
    | 13 =>
      refine F4_eq (by rw [f_X2_advance]) ?_
      exact F4_ite (ih _ _ _ hb) (ih _ _ _ hb)
    | 14 =>
      refine F4_eq (by rw [f_X2_advance]) ?_
      exact F4_ite (F4_ite (ih _ _ _ hb) (F4_no)) (F4_no)
    | 15 =>
      refine F4_eq (by rw [f_X2_advance]) ?_
      exact F4_ite (ih _ _ _ hb) (ih _ _ _ hb)
    | 16 =>
      refine F4_eq (by rw [f_X2_advance]) ?_
      exact ih _ _ _ hb
    | 17 =>
      refine F4_eq (by rw [f_X2_advance]) ?_
      exact ih _ _ _ hb
    | 18 =>
      refine F4_eq (by rw [f_X2_advance]) ?_
      exact ih _ _ _ hb
    | 19 =>
      refine F4_eq (by rw [f_X2_advance]) ?_
      exact F4_ite (ih _ _ _ hb) (ih _ _ _ hb)
    | 20 =>
      refine F4_eq (by rw [f_X2_advance]) ?_
      exact F4_ite (ih _ _ _ hb) (F4_ite (F4_ite (ih _ _ _ hb) (F4_ite (F4_ite (ih _ _ _ hb) (ih _ _ _ (uI_K4 (by decide) hb))) (F4_no))) (F4_no))
    | 21 =>
      refine F4_eq (by rw [f_X2_advance]) ?_
      exact F4_ite (ih _ _ _ hb) (F4_ite (ih _ _ _ hb) (F4_ite (ih _ _ _ hb) (F4_ite (ih _ _ _ hb) (ih _ _ _ hb))))
    | 22 =>
      refine F4_eq (by rw [f_X2_advance]) ?_
      exact F4_ite (F4_ite (ih _ _ _ hb) (F4_ite (ih _ _ _ hb) (F4_ite (ih _ _ _ hb) (F4_ite (ih _ _ _ hb) (ih _ _ _ hb))))) (ih _ _ _ hb)
    | 23 =>
      refine F4_eq (by rw [f_X2_advance]) ?_
      exact F4_ite (ih _ _ _ hb) (F4_ite (F4_ite (ih _ _ _ hb) (F4_ite (F4_ite (ih _ _ _ hb) (ih _ _ _ (uI_K4 (by decide) hb))) (F4_no))) (F4_no))
    | 24 =>
      refine F4_eq (by rw [f_X2_advance]) ?_
      exact F4_ite (ih _ _ _ hb) (ih _ _ _ hb)
    | 25 =>
      refine F4_eq (by rw [f_X2_advance]) ?_
      exact F4_ite (ih _ _ _ hb) (ih _ _ _ hb)
    | 26 =>
      refine F4_eq (by rw [f_X2_advance]) ?_
      exact F4_ite (ih _ _ _ hb) (F4_ite (ih _ _ _ hb) (F4_no))
    | 27 =>
      refine F4_eq (by rw [f_X2_advance]) ?_
      exact F4_ite (F4_ite (ih _ _ _ hb) (ih _ _ _ hb)) (ih _ _ _ hb)
    | 28 =>
      refine F4_eq (by rw [f_X2_advance]) ?_
      exact F4_ite (ih _ _ _ hb) (ih _ _ _ hb)
    | 29 =>
      refine F4_eq (by rw [f_X2_advance]) ?_
      exact F4_ite (ih _ _ _ hb) (F4_ite (F4_ite (F4_ite (ih _ _ _ hb) (ih _ _ _ hb)) (ih _ _ _ hb)) (F4_no))
    | 30 =>
      refine F4_eq (by rw [f_X2_advance]) ?_
      exact ih _ _ _ hb
    | 31 =>
      refine F4_eq (by rw [f_X2_advance]) ?_
      exact ih _ _ _ (uI_K4 (by decide) hb)
    | 32 =>
      refine F4_eq (by rw [f_X2_advance]) ?_
      exact ih _ _ _ hb
    | 33 =>
      refine F4_eq (by rw [f_X2_advance]) ?_
      exact ih _ _ _ (uI_K4 (by decide) hb)
    | 34 =>
      refine F4_eq (by rw [f_X2_advance]) ?_
      exact ih _ _ _ hb
    | 35 =>
      refine F4_eq (by rw [f_X2_advance]) ?_
      exact F4_ite (ih _ _ _ (uL_K4 hb)) (ih _ _ _ (uL_K4 hb))
    | 36 =>
      refine F4_eq (by rw [f_X2_advance]) ?_
      exact F4_ite (F4_ite (ih _ _ _ hb) (ih _ _ _ hb)) (ih _ _ _ hb)
    | 37 =>
      refine F4_eq (by rw [f_X2_advance]) ?_
      exact F4_ite (ih _ _ _ hb) (ih _ _ _ hb)
    | 38 =>
      refine F4_eq (by rw [f_X2_advance]) ?_
      exact F4_ite (ih _ _ _ hb) (ih _ _ _ hb)
    | 39 =>
      refine F4_eq (by rw [f_X2_advance]) ?_
      exact ih _ _ _ (uI_K4 (by decide) (uI_K4 (by decide) hb))
    | 40 =>
      refine F4_eq (by rw [f_X2_advance]) ?_
      exact ih _ _ _ hb
    | 41 =>
      refine F4_eq (by rw [f_X2_advance]) ?_
      exact ih _ _ _ (uI_K4 (by decide) (uI_K4 (by decide) hb))
    | 42 =>
      refine F4_eq (by rw [f_X2_advance]) ?_
      exact F4_ite (ih _ _ _ hb) (F4_ite (ih _ _ _ hb) (F4_ite (ih _ _ _ hb) (ih _ _ _ hb)))
    | 43 =>
      refine F4_eq (by rw [f_X2_advance]) ?_
      exact F4_ite (ih _ _ _ hb) (F4_ite (ih _ _ _ hb) (F4_ite (F4_ite (ih _ _ _ hb) (ih _ _ _ hb)) (F4_no)))
    | 44 =>
      refine F4_eq (by rw [f_X2_advance]) ?_
      exact F4_ite (ih _ _ _ hb) (F4_no)
    | 45 =>
      refine F4_eq (by rw [f_X2_advance]) ?_
      exact F4_ite (F4_ite (ih _ _ _ (uI_K4 (by decide) (uL_K4 hb))) (ih _ _ _ (uI_K4 (by decide) (uL_K4 hb)))) (F4_no)
    | 46 =>
      refine F4_eq (by rw [f_X2_advance]) ?_
      exact ih _ _ _ hb
    | 47 =>
      refine F4_eq (by rw [f_X2_advance]) ?_
      exact ih _ _ _ (uI_K4 (by decide) (uI_K4 (by decide) hb))
    | 48 =>
      refine F4_eq (by rw [f_X2_advance]) ?_
      exact ih _ _ _ hb
    | 49 =>
      refine F4_eq (by rw [f_X2_advance]) ?_
      exact F4_so hb
    | 50 =>
      refine F4_eq (by rw [f_X2_advance]) ?_
      exact F4_so hb
    | 51 =>
      refine F4_eq (by rw [f_X2_advance]) ?_
      exact ih _ _ _ hb
    | 52 =>
      refine F4_eq (by rw [f_X2_advance]) ?_
      exact ih _ _ _ hb
    | 53 =>
      refine F4_eq (by rw [f_X2_advance]) ?_
      exact ih _ _ _ (uI_K4 (by decide) hb)
    | 54 =>
      refine F4_eq (by rw [f_X2_advance]) ?_
      exact F4_ite (F4_ite (ih _ _ _ hb) (F4_no)) (F4_no)
    | 55 =>
      refine F4_eq (by rw [f_X2_advance]) ?_
      exact ih _ _ _ hb
    | b + 56 =>
      exact F4_eq (by rw [f_X2_advance]) F4_no
theorem k4_f_X5_refuse : ∀ (k b : Nat) (L : LV) (σ : CS), K4 w σ → F4 w (f_X5_refuse k b L σ) := by
  intro k
  induction k with
  | zero => intro b L σ _; exact F4_no
  | succ k ih =>
    intro b L σ hb
    match b with
    | 0 =>
      refine F4_eq (by rw [f_X5_refuse]) ?_
      exact F4_so (uI_K4 (by decide) (uI_K4 (by decide) hb))
    | b + 1 =>
      exact F4_eq (by rw [f_X5_refuse]) F4_no
theorem k4_f_X5_want : ∀ (k b : Nat) (L : LV) (σ : CS), K4 w σ → F4 w (f_X5_want k b L σ) := by
  intro k
  induction k with
  | zero => intro b L σ _; exact F4_no
  | succ k ih =>
    intro b L σ hb
    match b with
    | 0 =>
      refine F4_eq (by rw [f_X5_want]) ?_
      exact F4_ite (ih _ _ _ hb) (F4_ox (k4_f_X5_refuse _ _ _ _ hb) (fun _ h1 => ih _ _ _ h1))
    | 1 =>
      refine F4_eq (by rw [f_X5_want]) ?_
      exact F4_so hb
    | b + 2 =>
      exact F4_eq (by rw [f_X5_want]) F4_no
theorem k4_y_X7_isToldFrom__P : ∀ (k b : Nat) (L : LV) (σ : CS), K4 w σ → Y4 w (y_X7_isToldFrom__P k b L σ) := by
  intro k
  induction k with
  | zero => intro b L σ _; exact Y4_no
  | succ k ih =>
    intro b L σ hb
    match b with
    | 0 =>
      refine Y4_eq (by rw [y_X7_isToldFrom__P]) ?_
      exact ih _ _ _ hb
    | 1 =>
      refine Y4_eq (by rw [y_X7_isToldFrom__P]) ?_
      exact Y4_ite (ih _ _ _ hb) (Y4_ite (Y4_ite (Y4_ite (Y4_ite (Y4_so hb) (ih _ _ _ hb)) (Y4_no)) (ih _ _ _ hb)) (Y4_no))
    | 2 =>
      refine Y4_eq (by rw [y_X7_isToldFrom__P]) ?_
      exact Y4_so hb
    | 3 =>
      refine Y4_eq (by rw [y_X7_isToldFrom__P]) ?_
      exact ih _ _ _ hb
    | b + 4 =>
      exact Y4_eq (by rw [y_X7_isToldFrom__P]) Y4_no
theorem k4_y_X7_openUnit__P : ∀ (k b : Nat) (L : LV) (σ : CS), K4 w σ → Y4 w (y_X7_openUnit__P k b L σ) := by
  intro k
  induction k with
  | zero => intro b L σ _; exact Y4_no
  | succ k ih =>
    intro b L σ hb
    match b with
    | 0 =>
      refine Y4_eq (by rw [y_X7_openUnit__P]) ?_
      exact Y4_ite (Y4_ite (Y4_ite (ih _ _ _ (uA_K4 (uA_K4 (uA_K4 hb)))) (Y4_no)) (Y4_no)) (Y4_no)
    | 1 =>
      refine Y4_eq (by rw [y_X7_openUnit__P]) ?_
      exact Y4_ite (Y4_ite (Y4_ite (ih _ _ _ (uA_K4 (uA_K4 (uA_K4 hb)))) (Y4_no)) (Y4_no)) (Y4_no)
    | 2 =>
      refine Y4_eq (by rw [y_X7_openUnit__P]) ?_
      exact Y4_so (uI_K4 (fP_4 _ (by decide) (by decide)) hb)
    | b + 3 =>
      exact Y4_eq (by rw [y_X7_openUnit__P]) Y4_no
theorem k4_y_X7_tell__P : ∀ (k b : Nat) (L : LV) (σ : CS), K4 w σ → Y4 w (y_X7_tell__P k b L σ) := by
  intro k
  induction k with
  | zero => intro b L σ _; exact Y4_no
  | succ k ih =>
    intro b L σ hb
    match b with
    | 0 =>
      refine Y4_eq (by rw [y_X7_tell__P]) ?_
      exact Y4_ite (ih _ _ _ hb) (Y4_ite (Y4_ite (Y4_ite (ih _ _ _ (uA_K4 (uJ_K4 (uJ_K4 hb)))) (Y4_no)) (Y4_no)) (Y4_no))
    | 1 =>
      refine Y4_eq (by rw [y_X7_tell__P]) ?_
      exact Y4_so hb
    | 2 =>
      refine Y4_eq (by rw [y_X7_tell__P]) ?_
      exact Y4_ite (Y4_ite (Y4_ite (ih _ _ _ (uA_K4 (uA_K4 (uA_K4 hb)))) (Y4_no)) (Y4_no)) (Y4_no)
    | 3 =>
      refine Y4_eq (by rw [y_X7_tell__P]) ?_
      exact ih _ _ _ (uI_K4 (fP_4 _ (by decide) (by decide)) hb)
    | b + 4 =>
      exact Y4_eq (by rw [y_X7_tell__P]) Y4_no
theorem k4_f_X5_opens : ∀ (k b : Nat) (L : LV) (σ : CS), K4 w σ → F4 w (f_X5_opens k b L σ) := by
  intro k
  induction k with
  | zero => intro b L σ _; exact F4_no
  | succ k ih =>
    intro b L σ hb
    match b with
    | 0 =>
      refine F4_eq (by rw [f_X5_opens]) ?_
      exact F4_ite (ih _ _ _ hb) (F4_ox (k4_f_X5_refuse _ _ _ _ hb) (fun _ h2 => ih _ _ _ h2))
    | 1 =>
      refine F4_eq (by rw [f_X5_opens]) ?_
      exact F4_ox (k4_f_X2_advance _ _ _ _ (uI_K4 (by decide) hb)) (fun _ h3 => F4_so h3)
    | b + 2 =>
      exact F4_eq (by rw [f_X5_opens]) F4_no
theorem k4_f_X5_tellUnit : ∀ (k b : Nat) (L : LV) (σ : CS), K4 w σ → F4 w (f_X5_tellUnit k b L σ) := by
  intro k
  induction k with
  | zero => intro b L σ _; exact F4_no
  | succ k ih =>
    intro b L σ hb
    match b with
    | 0 =>
      refine F4_eq (by rw [f_X5_tellUnit]) ?_
      exact F4_ox (k4_f_X2_advance _ _ _ _ hb) (fun _ h4 => F4_ox (k4_f_X5_want _ _ _ _ h4) (fun _ h5 => F4_oP (fun _ => F4_op (k4_y_X7_isToldFrom__P _ _ _ _ h5) (fun _ h6 => F4_ite (ih _ _ _ h6) (F4_ox (k4_f_X5_refuse _ _ _ _ h6) (fun _ h7 => ih _ _ _ h7))))))
    | 1 =>
      refine F4_eq (by rw [f_X5_tellUnit]) ?_
      exact F4_oP (fun _ => F4_ite (ih _ _ _ hb) (F4_ox (k4_f_X5_refuse _ _ _ _ hb) (fun _ h8 => ih _ _ _ h8)))
    | 2 =>
      refine F4_eq (by rw [f_X5_tellUnit]) ?_
      exact F4_oP (fun _ => F4_oP (fun _ => F4_oP (fun _ => F4_op (k4_y_X7_openUnit__P _ _ _ _ (uI_K4 (by decide) (uI_K4 (fP_4 _ (by decide) (by decide)) hb))) (fun _ h9 => F4_oP (fun _ => F4_op (k4_y_X7_tell__P _ _ _ _ h9) (fun _ h10 => F4_ox (k4_f_X2_advance _ _ _ _ h10) (fun _ h11 => F4_ox (k4_f_X5_want _ _ _ _ h11) (fun _ h12 => F4_ox (k4_f_X5_opens _ _ _ _ h12) (fun _ h13 => F4_oP (fun _ => F4_so h13))))))))))
    | b + 3 =>
      exact F4_eq (by rw [f_X5_tellUnit]) F4_no
theorem k4_f_X5_checkName : ∀ (k b : Nat) (L : LV) (σ : CS), K4 w σ → F4 w (f_X5_checkName k b L σ) := by
  intro k
  induction k with
  | zero => intro b L σ _; exact F4_no
  | succ k ih =>
    intro b L σ hb
    match b with
    | 0 =>
      refine F4_eq (by rw [f_X5_checkName]) ?_
      exact F4_ite (ih _ _ _ hb) (F4_ox (k4_f_X5_refuse _ _ _ _ hb) (fun _ h14 => ih _ _ _ h14))
    | 1 =>
      refine F4_eq (by rw [f_X5_checkName]) ?_
      exact F4_oP (fun _ => F4_op (k4_y_X7_isToldFrom__P _ _ _ _ hb) (fun _ h15 => F4_ite (ih _ _ _ h15) (F4_ox (k4_f_X5_refuse _ _ _ _ h15) (fun _ h16 => ih _ _ _ h16))))
    | 2 =>
      refine F4_eq (by rw [f_X5_checkName]) ?_
      exact F4_oP (fun _ => F4_ite (F4_ite (ih _ _ _ hb) (F4_ox (k4_f_X5_refuse _ _ _ _ hb) (fun _ h17 => ih _ _ _ h17))) (F4_no))
    | 3 =>
      refine F4_eq (by rw [f_X5_checkName]) ?_
      exact F4_oP (fun _ => F4_ite (F4_ite (F4_so (uA_K4 hb)) (F4_no)) (F4_no))
    | b + 4 =>
      exact F4_eq (by rw [f_X5_checkName]) F4_no
theorem k4_y_X7_newSlots__P : ∀ (k b : Nat) (L : LV) (σ : CS), K4 w σ → Y4 w (y_X7_newSlots__P k b L σ) := by
  intro k
  induction k with
  | zero => intro b L σ _; exact Y4_no
  | succ k ih =>
    intro b L σ hb
    match b with
    | 0 =>
      refine Y4_eq (by rw [y_X7_newSlots__P]) ?_
      exact Y4_ite (Y4_ite (Y4_ite (Y4_so (uA_K4 hb)) (Y4_no)) (Y4_no)) (Y4_no)
    | b + 1 =>
      exact Y4_eq (by rw [y_X7_newSlots__P]) Y4_no
theorem k4_f_X5_tellVariable : ∀ (k b : Nat) (L : LV) (σ : CS), K4 w σ → F4 w (f_X5_tellVariable k b L σ) := by
  intro k
  induction k with
  | zero => intro b L σ _; exact F4_no
  | succ k ih =>
    intro b L σ hb
    match b with
    | 0 =>
      refine F4_eq (by rw [f_X5_tellVariable]) ?_
      exact F4_ox (k4_f_X5_checkName _ _ _ _ hb) (fun _ h18 => F4_oP (fun _ => F4_ite (F4_ite (F4_oP (fun _ => F4_oP (fun _ => F4_op (k4_y_X7_newSlots__P _ _ _ _ (uA_K4 h18)) (fun _ h19 => F4_op (k4_y_X7_tell__P _ _ _ _ h19) (fun _ h20 => F4_ox (k4_f_X2_advance _ _ _ _ h20) (fun _ h21 => F4_so h21)))))) (F4_no)) (F4_no)))
    | b + 1 =>
      exact F4_eq (by rw [f_X5_tellVariable]) F4_no
theorem k4_f_X5_parameter : ∀ (k b : Nat) (L : LV) (σ : CS), K4 w σ → F4 w (f_X5_parameter k b L σ) := by
  intro k
  induction k with
  | zero => intro b L σ _; exact F4_no
  | succ k ih =>
    intro b L σ hb
    match b with
    | 0 =>
      refine F4_eq (by rw [f_X5_parameter]) ?_
      exact F4_ox (k4_f_X5_want _ _ _ _ hb) (fun _ h22 => F4_oP (fun _ => F4_op (k4_y_X7_isToldFrom__P _ _ _ _ h22) (fun _ h23 => F4_ite (ih _ _ _ h23) (F4_ox (k4_f_X5_refuse _ _ _ _ h23) (fun _ h24 => ih _ _ _ h24)))))
    | 1 =>
      refine F4_eq (by rw [f_X5_parameter]) ?_
      exact F4_oP (fun _ => F4_ite (F4_ite (ih _ _ _ hb) (F4_ox (k4_f_X5_refuse _ _ _ _ hb) (fun _ h25 => ih _ _ _ h25))) (F4_no))
    | 2 =>
      refine F4_eq (by rw [f_X5_parameter]) ?_
      exact F4_ox (k4_f_X5_tellVariable _ _ _ _ hb) (fun _ h26 => F4_oP (fun _ => F4_ite (F4_ite (F4_so (uA_K4 h26)) (F4_no)) (F4_no)))
    | b + 3 =>
      exact F4_eq (by rw [f_X5_parameter]) F4_no
theorem k4_f_X5_closes : ∀ (k b : Nat) (L : LV) (σ : CS), K4 w σ → F4 w (f_X5_closes k b L σ) := by
  intro k
  induction k with
  | zero => intro b L σ _; exact F4_no
  | succ k ih =>
    intro b L σ hb
    match b with
    | 0 =>
      refine F4_eq (by rw [f_X5_closes]) ?_
      exact F4_ite (ih _ _ _ hb) (F4_ox (k4_f_X5_refuse _ _ _ _ hb) (fun _ h27 => ih _ _ _ h27))
    | 1 =>
      refine F4_eq (by rw [f_X5_closes]) ?_
      exact F4_ox (k4_f_X2_advance _ _ _ _ (uI_K4 (by decide) hb)) (fun _ h28 => F4_so h28)
    | b + 2 =>
      exact F4_eq (by rw [f_X5_closes]) F4_no
theorem k4_f_X5_expect : ∀ (k b : Nat) (L : LV) (σ : CS), K4 w σ → F4 w (f_X5_expect k b L σ) := by
  intro k
  induction k with
  | zero => intro b L σ _; exact F4_no
  | succ k ih =>
    intro b L σ hb
    match b with
    | 0 =>
      refine F4_eq (by rw [f_X5_expect]) ?_
      exact F4_ite (ih _ _ _ hb) (F4_ox (k4_f_X5_refuse _ _ _ _ hb) (fun _ h29 => ih _ _ _ h29))
    | 1 =>
      refine F4_eq (by rw [f_X5_expect]) ?_
      exact F4_ox (k4_f_X2_advance _ _ _ _ hb) (fun _ h30 => F4_so h30)
    | b + 2 =>
      exact F4_eq (by rw [f_X5_expect]) F4_no
theorem k4_f_X7_widen__P : ∀ (k b : Nat) (L : LV) (σ : CS), K4 w σ → F4 w (f_X7_widen__P k b L σ) := by
  intro k
  induction k with
  | zero => intro b L σ _; exact F4_no
  | succ k ih =>
    intro b L σ hb
    match b with
    | 0 =>
      refine F4_eq (by rw [f_X7_widen__P]) ?_
      exact F4_ite (ih _ _ _ hb) (F4_ite (ih _ _ _ hb) (F4_ite (F4_ite (F4_ad (ih _ _ _ (uC_K4 hb))) (F4_no)) (F4_no)))
    | 1 =>
      refine F4_eq (by rw [f_X7_widen__P]) ?_
      exact F4_ite (ih _ _ _ hb) (F4_so hb)
    | 2 =>
      refine F4_eq (by rw [f_X7_widen__P]) ?_
      exact F4_so hb
    | b + 3 =>
      exact F4_eq (by rw [f_X7_widen__P]) F4_no
theorem k4_f_X7_emit__P : ∀ (k b : Nat) (L : LV) (σ : CS), K4 w σ → F4 w (f_X7_emit__P k b L σ) := by
  intro k
  induction k with
  | zero => intro b L σ _; exact F4_no
  | succ k ih =>
    intro b L σ hb
    match b with
    | 0 =>
      refine F4_eq (by rw [f_X7_emit__P]) ?_
      exact F4_ox (k4_f_X7_widen__P _ _ _ _ hb) (fun _ h31 => F4_ite (F4_so (uI_K4 (fP_4 _ (by decide) (by decide)) (uA_K4 h31))) (F4_no))
    | b + 1 =>
      exact F4_eq (by rw [f_X7_emit__P]) F4_no
theorem k4_y_X7_aim__P : ∀ (k b : Nat) (L : LV) (σ : CS), K4 w σ → Y4 w (y_X7_aim__P k b L σ) := by
  intro k
  induction k with
  | zero => intro b L σ _; exact Y4_no
  | succ k ih =>
    intro b L σ hb
    match b with
    | 0 =>
      refine Y4_eq (by rw [y_X7_aim__P]) ?_
      exact Y4_ite (Y4_ite (Y4_so (uA_K4 hb)) (Y4_no)) (Y4_no)
    | b + 1 =>
      exact Y4_eq (by rw [y_X7_aim__P]) Y4_no
theorem k4_y_X5_aimAll : ∀ (k b : Nat) (L : LV) (σ : CS), K4 w σ → Y4 w (y_X5_aimAll k b L σ) := by
  intro k
  induction k with
  | zero => intro b L σ _; exact Y4_no
  | succ k ih =>
    intro b L σ hb
    match b with
    | 0 =>
      refine Y4_eq (by rw [y_X5_aimAll]) ?_
      exact ih _ _ _ hb
    | 1 =>
      refine Y4_eq (by rw [y_X5_aimAll]) ?_
      exact Y4_ite (ih _ _ _ hb) (Y4_ite (ih _ _ _ hb) (Y4_oB (fun _ => Y4_ite (Y4_oB (fun _ => Y4_oB (fun _ => Y4_oc (k4_y_X7_aim__P _ _ _ _ hb) (fun _ h32 => ih _ _ _ h32)))) (Y4_no))))
    | 2 =>
      refine Y4_eq (by rw [y_X5_aimAll]) ?_
      exact Y4_so hb
    | b + 3 =>
      exact Y4_eq (by rw [y_X5_aimAll]) Y4_no
theorem k4_t_X5_choice {X : Nat → Nat → Nat → LV → CS → Option RS} (hX : ∀ e m b L (σ : CS), K4 w σ → F4 w (X e m b L σ)) (K d b : Nat) (L : LV) (σ : CS) (hb : K4 w σ) : F4 w (t_X5_choice X K d b L σ) := by
  match b with
  | 0 => exact F4_ox (k4_f_X5_opens _ _ _ _ hb) (fun _ h33 => F4_of (fun _ => F4_ox (hX _ _ _ _ _ h33) (fun _ h34 => F4_ox (k4_f_X5_expect _ _ _ _ h34) (fun _ h35 => F4_oP (fun _ => F4_ox (k4_f_X7_emit__P _ _ _ _ h35) (fun _ h36 => F4_of (fun _ => F4_ox (hX _ _ _ _ _ h36) (fun _ h37 => F4_oP (fun _ => F4_ox (k4_f_X7_emit__P _ _ _ _ h37) (fun _ h38 => F4_oP (fun _ => F4_oP (fun _ => F4_op (k4_y_X7_aim__P _ _ _ _ h38) (fun _ h39 => hX _ _ _ _ _ h39)))))))))))))
  | 1 => exact F4_ite (hX _ _ _ _ _ hb) (F4_ite (F4_ox (k4_f_X2_advance _ _ _ _ hb) (fun _ h40 => F4_of (fun _ => F4_ox (hX _ _ _ _ _ h40) (fun _ h41 => F4_ox (k4_f_X5_expect _ _ _ _ h41) (fun _ h42 => F4_oP (fun _ => F4_ox (k4_f_X7_emit__P _ _ _ _ h42) (fun _ h43 => F4_of (fun _ => F4_ox (hX _ _ _ _ _ h43) (fun _ h44 => F4_oP (fun _ => F4_ox (k4_f_X7_emit__P _ _ _ _ h44) (fun _ h45 => F4_oP (fun _ => F4_oP (fun _ => F4_op (k4_y_X7_aim__P _ _ _ _ h45) (fun _ h46 => hX _ _ _ _ _ h46)))))))))))))) (hX _ _ _ _ _ hb))
  | 2 => exact F4_ox (k4_f_X5_expect _ _ _ _ hb) (fun _ h47 => F4_of (fun _ => F4_ox (hX _ _ _ _ _ h47) (fun _ h48 => F4_ox (k4_f_X5_closes _ _ _ _ h48) (fun _ h49 => F4_op (k4_y_X5_aimAll _ _ _ _ h49) (fun _ h50 => F4_so h50)))))
  | b + 3 => exact F4_no
theorem k4_f_X5_settle : ∀ (k b : Nat) (L : LV) (σ : CS), K4 w σ → F4 w (f_X5_settle k b L σ) := by
  intro k
  induction k with
  | zero => intro b L σ _; exact F4_no
  | succ k ih =>
    intro b L σ hb
    match b with
    | 0 =>
      refine F4_eq (by rw [f_X5_settle]) ?_
      exact ih _ _ _ hb
    | 1 =>
      refine F4_eq (by rw [f_X5_settle]) ?_
      exact F4_ite (ih _ _ _ hb) (F4_ite (ih _ _ _ hb) (F4_ite (F4_ite (ih _ _ _ hb) (F4_ite (F4_ite (F4_oP (fun _ => F4_ite (F4_ox (k4_f_X7_emit__P _ _ _ _ (uI_K4 (by decide) hb)) (fun _ h51 => F4_ite (ih _ _ _ h51) (F4_oP (fun _ => F4_oP (fun _ => F4_op (k4_y_X7_aim__P _ _ _ _ h51) (fun _ h52 => ih _ _ _ h52)))))) (F4_no))) (F4_no)) (F4_no))) (F4_no)))
    | 2 =>
      refine F4_eq (by rw [f_X5_settle]) ?_
      exact F4_so hb
    | 3 =>
      refine F4_eq (by rw [f_X5_settle]) ?_
      exact F4_ite (ih _ _ _ hb) (F4_ite (ih _ _ _ hb) (ih _ _ _ hb))
    | 4 =>
      refine F4_eq (by rw [f_X5_settle]) ?_
      exact F4_ite (F4_ite (F4_oP (fun _ => F4_ox (k4_f_X7_emit__P _ _ _ _ hb) (fun _ h53 => ih _ _ _ h53))) (ih _ _ _ hb)) (F4_no)
    | 5 =>
      refine F4_eq (by rw [f_X5_settle]) ?_
      exact ih _ _ _ (uI_K4 (by decide) hb)
    | 6 =>
      refine F4_eq (by rw [f_X5_settle]) ?_
      exact ih _ _ _ hb
    | b + 7 =>
      exact F4_eq (by rw [f_X5_settle]) F4_no
theorem k4_y_X5_postponedLevel : ∀ (k b : Nat) (L : LV) (σ : CS), K4 w σ → Y4 w (y_X5_postponedLevel k b L σ) := by
  intro k
  induction k with
  | zero => intro b L σ _; exact Y4_no
  | succ k ih =>
    intro b L σ hb
    match b with
    | 0 =>
      refine Y4_eq (by rw [y_X5_postponedLevel]) ?_
      exact Y4_ite (ih _ _ _ hb) (Y4_ite (ih _ _ _ hb) (Y4_no))
    | 1 =>
      refine Y4_eq (by rw [y_X5_postponedLevel]) ?_
      exact ih _ _ _ hb
    | 2 =>
      refine Y4_eq (by rw [y_X5_postponedLevel]) ?_
      exact Y4_so hb
    | b + 3 =>
      exact Y4_eq (by rw [y_X5_postponedLevel]) Y4_no
theorem k4_f_X5_widenMarks : ∀ (k b : Nat) (L : LV) (σ : CS), K4 w σ → F4 w (f_X5_widenMarks k b L σ) := by
  intro k
  induction k with
  | zero => intro b L σ _; exact F4_no
  | succ k ih =>
    intro b L σ hb
    match b with
    | 0 =>
      refine F4_eq (by rw [f_X5_widenMarks]) ?_
      exact F4_ite (ih _ _ _ hb) (F4_ite (ih _ _ _ hb) (F4_ite (F4_ite (F4_ad (ih _ _ _ (uZ_K4 hb))) (F4_no)) (F4_no)))
    | 1 =>
      refine F4_eq (by rw [f_X5_widenMarks]) ?_
      exact F4_ite (ih _ _ _ hb) (F4_so hb)
    | 2 =>
      refine F4_eq (by rw [f_X5_widenMarks]) ?_
      exact F4_so hb
    | b + 3 =>
      exact F4_eq (by rw [f_X5_widenMarks]) F4_no
theorem k4_f_X5_postpone : ∀ (k b : Nat) (L : LV) (σ : CS), K4 w σ → F4 w (f_X5_postpone k b L σ) := by
  intro k
  induction k with
  | zero => intro b L σ _; exact F4_no
  | succ k ih =>
    intro b L σ hb
    match b with
    | 0 =>
      refine F4_eq (by rw [f_X5_postpone]) ?_
      exact F4_ox (k4_f_X5_widenMarks _ _ _ _ hb) (fun _ h54 => F4_ite (F4_ite (F4_ite (ih _ _ _ (uA_K4 (uA_K4 (uA_K4 h54)))) (F4_no)) (F4_no)) (F4_no))
    | 1 =>
      refine F4_eq (by rw [f_X5_postpone]) ?_
      exact F4_so (uI_K4 (by decide) hb)
    | b + 2 =>
      exact F4_eq (by rw [f_X5_postpone]) F4_no
theorem k4_f_X5_prefix : ∀ (k b : Nat) (L : LV) (σ : CS), K4 w σ → F4 w (f_X5_prefix k b L σ) := by
  intro k
  induction k with
  | zero => intro b L σ _; exact F4_no
  | succ k ih =>
    intro b L σ hb
    match b with
    | 0 =>
      refine F4_eq (by rw [f_X5_prefix]) ?_
      exact F4_ite (F4_ite (ih _ _ _ hb) (ih _ _ _ hb)) (ih _ _ _ hb)
    | 1 =>
      refine F4_eq (by rw [f_X5_prefix]) ?_
      exact ih _ _ _ hb
    | 2 =>
      refine F4_eq (by rw [f_X5_prefix]) ?_
      exact F4_op (k4_y_X5_postponedLevel _ _ _ _ hb) (fun _ h55 => ih _ _ _ h55)
    | 3 =>
      refine F4_eq (by rw [f_X5_prefix]) ?_
      exact F4_ite (ih _ _ _ hb) (ih _ _ _ hb)
    | 4 =>
      refine F4_eq (by rw [f_X5_prefix]) ?_
      exact F4_ite (ih _ _ _ hb) (ih _ _ _ hb)
    | 5 =>
      refine F4_eq (by rw [f_X5_prefix]) ?_
      exact F4_ite (ih _ _ _ hb) (ih _ _ _ hb)
    | 6 =>
      refine F4_eq (by rw [f_X5_prefix]) ?_
      exact F4_ite (F4_ite (F4_ite (ih _ _ _ hb) (F4_ite (ih _ _ _ hb) (F4_so hb))) (ih _ _ _ hb)) (ih _ _ _ hb)
    | 7 =>
      refine F4_eq (by rw [f_X5_prefix]) ?_
      exact F4_ite (ih _ _ _ hb) (ih _ _ _ hb)
    | 8 =>
      refine F4_eq (by rw [f_X5_prefix]) ?_
      exact F4_ite (ih _ _ _ hb) (F4_ox (k4_f_X5_refuse _ _ _ _ hb) (fun _ h56 => ih _ _ _ h56))
    | 9 =>
      refine F4_eq (by rw [f_X5_prefix]) ?_
      exact F4_ite (ih _ _ _ hb) (ih _ _ _ hb)
    | 10 =>
      refine F4_eq (by rw [f_X5_prefix]) ?_
      exact F4_ox (k4_f_X2_advance _ _ _ _ (uI_K4 (by decide) hb)) (fun _ h57 => F4_ite (ih _ _ _ h57) (F4_ox (k4_f_X5_postpone _ _ _ _ h57) (fun _ h58 => ih _ _ _ h58)))
    | 11 =>
      refine F4_eq (by rw [f_X5_prefix]) ?_
      exact ih _ _ _ hb
    | 12 =>
      refine F4_eq (by rw [f_X5_prefix]) ?_
      exact F4_ite (F4_ite (ih _ _ _ hb) (ih _ _ _ hb)) (ih _ _ _ hb)
    | 13 =>
      refine F4_eq (by rw [f_X5_prefix]) ?_
      exact F4_so hb
    | 14 =>
      refine F4_eq (by rw [f_X5_prefix]) ?_
      exact F4_ox (k4_f_X5_expect _ _ _ _ hb) (fun _ h59 => F4_ox (k4_f_X5_postpone _ _ _ _ h59) (fun _ h60 => ih _ _ _ h60))
    | 15 =>
      refine F4_eq (by rw [f_X5_prefix]) ?_
      exact ih _ _ _ hb
    | 16 =>
      refine F4_eq (by rw [f_X5_prefix]) ?_
      exact F4_ox (k4_f_X5_postpone _ _ _ _ hb) (fun _ h61 => ih _ _ _ h61)
    | b + 17 =>
      exact F4_eq (by rw [f_X5_prefix]) F4_no
theorem k4_y_X5_level : ∀ (k b : Nat) (L : LV) (σ : CS), K4 w σ → Y4 w (y_X5_level k b L σ) := by
  intro k
  induction k with
  | zero => intro b L σ _; exact Y4_no
  | succ k ih =>
    intro b L σ hb
    match b with
    | 0 =>
      refine Y4_eq (by rw [y_X5_level]) ?_
      exact Y4_ite (ih _ _ _ hb) (Y4_ite (ih _ _ _ hb) (Y4_ite (ih _ _ _ hb) (Y4_ite (ih _ _ _ hb) (Y4_ite (ih _ _ _ hb) (Y4_ite (ih _ _ _ hb) (Y4_ite (ih _ _ _ hb) (Y4_ite (ih _ _ _ hb) (Y4_ite (ih _ _ _ hb) (Y4_ite (ih _ _ _ hb) (Y4_ite (ih _ _ _ hb) (Y4_ite (ih _ _ _ hb) (Y4_ite (ih _ _ _ hb) (Y4_ite (ih _ _ _ hb) (Y4_ite (ih _ _ _ hb) (Y4_ite (ih _ _ _ hb) (Y4_ite (ih _ _ _ hb) (Y4_ite (ih _ _ _ hb) (Y4_ite (ih _ _ _ hb) (Y4_ite (ih _ _ _ hb) (Y4_ite (ih _ _ _ hb) (Y4_ite (ih _ _ _ hb) (Y4_ite (ih _ _ _ hb) (Y4_ite (ih _ _ _ hb) (Y4_ite (ih _ _ _ hb) (Y4_ite (ih _ _ _ hb) (Y4_ite (ih _ _ _ hb) (Y4_ite (ih _ _ _ hb) (Y4_ite (ih _ _ _ hb) (Y4_ite (ih _ _ _ hb) (Y4_ite (ih _ _ _ hb) (Y4_ite (ih _ _ _ hb) (Y4_ite (ih _ _ _ hb) (Y4_ite (ih _ _ _ hb) (Y4_ite (ih _ _ _ hb) (Y4_ite (ih _ _ _ hb) (Y4_ite (ih _ _ _ hb) (Y4_ite (ih _ _ _ hb) (Y4_ite (ih _ _ _ hb) (Y4_ite (ih _ _ _ hb) (Y4_ite (ih _ _ _ hb) (Y4_ite (ih _ _ _ hb) (Y4_ite (ih _ _ _ hb) (Y4_ite (ih _ _ _ hb) (Y4_ite (ih _ _ _ hb) (Y4_ite (ih _ _ _ hb) (Y4_ite (ih _ _ _ hb) (Y4_ite (ih _ _ _ hb) (Y4_ite (ih _ _ _ hb) (Y4_ite (ih _ _ _ hb) (Y4_ite (ih _ _ _ hb) (Y4_ite (ih _ _ _ hb) (Y4_ite (ih _ _ _ hb) (Y4_ite (ih _ _ _ hb) (Y4_ite (ih _ _ _ hb) (Y4_ite (ih _ _ _ hb) (Y4_ite (ih _ _ _ hb) (Y4_ite (ih _ _ _ hb) (Y4_ite (ih _ _ _ hb) (Y4_ite (ih _ _ _ hb) (Y4_ite (ih _ _ _ hb) (Y4_ite (ih _ _ _ hb) (Y4_ite (ih _ _ _ hb) (ih _ _ _ hb)))))))))))))))))))))))))))))))))))))))))))))))))))))))))))))))
    | 1 =>
      refine Y4_eq (by rw [y_X5_level]) ?_
      exact Y4_so hb
    | 2 =>
      refine Y4_eq (by rw [y_X5_level]) ?_
      exact Y4_so hb
    | 3 =>
      refine Y4_eq (by rw [y_X5_level]) ?_
      exact Y4_so hb
    | 4 =>
      refine Y4_eq (by rw [y_X5_level]) ?_
      exact Y4_so hb
    | 5 =>
      refine Y4_eq (by rw [y_X5_level]) ?_
      exact Y4_so hb
    | 6 =>
      refine Y4_eq (by rw [y_X5_level]) ?_
      exact Y4_so hb
    | 7 =>
      refine Y4_eq (by rw [y_X5_level]) ?_
      exact Y4_so hb
    | b + 8 =>
      exact Y4_eq (by rw [y_X5_level]) Y4_no
theorem k4_y_X5_binaryOp : ∀ (k b : Nat) (L : LV) (σ : CS), K4 w σ → Y4 w (y_X5_binaryOp k b L σ) := by
  intro k
  induction k with
  | zero => intro b L σ _; exact Y4_no
  | succ k ih =>
    intro b L σ hb
    match b with
    | 0 =>
      refine Y4_eq (by rw [y_X5_binaryOp]) ?_
      exact Y4_ite (ih _ _ _ hb) (Y4_ite (ih _ _ _ hb) (Y4_ite (ih _ _ _ hb) (Y4_ite (ih _ _ _ hb) (Y4_ite (ih _ _ _ hb) (Y4_ite (ih _ _ _ hb) (Y4_ite (ih _ _ _ hb) (Y4_ite (ih _ _ _ hb) (Y4_ite (ih _ _ _ hb) (ih _ _ _ hb)))))))))
    | 1 =>
      refine Y4_eq (by rw [y_X5_binaryOp]) ?_
      exact Y4_so hb
    | 2 =>
      refine Y4_eq (by rw [y_X5_binaryOp]) ?_
      exact Y4_so hb
    | 3 =>
      refine Y4_eq (by rw [y_X5_binaryOp]) ?_
      exact Y4_so hb
    | 4 =>
      refine Y4_eq (by rw [y_X5_binaryOp]) ?_
      exact Y4_so hb
    | 5 =>
      refine Y4_eq (by rw [y_X5_binaryOp]) ?_
      exact Y4_so hb
    | 6 =>
      refine Y4_eq (by rw [y_X5_binaryOp]) ?_
      exact Y4_so hb
    | 7 =>
      refine Y4_eq (by rw [y_X5_binaryOp]) ?_
      exact Y4_so hb
    | 8 =>
      refine Y4_eq (by rw [y_X5_binaryOp]) ?_
      exact Y4_so hb
    | 9 =>
      refine Y4_eq (by rw [y_X5_binaryOp]) ?_
      exact Y4_so hb
    | 10 =>
      refine Y4_eq (by rw [y_X5_binaryOp]) ?_
      exact Y4_so hb
    | b + 11 =>
      exact Y4_eq (by rw [y_X5_binaryOp]) Y4_no
theorem k4_t_X5_exp {X : Nat → Nat → Nat → LV → CS → Option RS} (hX : ∀ e m b L (σ : CS), K4 w σ → F4 w (X e m b L σ)) (K d b : Nat) (L : LV) (σ : CS) (hb : K4 w σ) : F4 w (t_X5_exp X K d b L σ) := by
  match b with
  | 0 => exact hX _ _ _ _ _ hb
  | 1 => exact F4_ite (hX _ _ _ _ _ hb) (F4_ite (hX _ _ _ _ _ hb) (hX _ _ _ _ _ hb))
  | 2 => exact F4_ox (k4_f_X5_settle _ _ _ _ hb) (fun _ h62 => F4_so h62)
  | 3 => exact F4_ite (hX _ _ _ _ _ hb) (F4_ite (hX _ _ _ _ _ hb) (F4_ox (k4_f_X5_prefix _ _ _ _ hb) (fun _ h63 => hX _ _ _ _ _ h63)))
  | 4 => exact F4_of (fun _ => F4_ox (hX _ _ _ _ _ hb) (fun _ h64 => F4_op (k4_y_X5_level _ _ _ _ h64) (fun _ h65 => F4_ite (hX _ _ _ _ _ h65) (hX _ _ _ _ _ h65))))
  | 5 => exact hX _ _ _ _ _ hb
  | 6 => exact F4_ite (hX _ _ _ _ _ hb) (F4_ite (hX _ _ _ _ _ hb) (F4_ite (hX _ _ _ _ _ hb) (hX _ _ _ _ _ hb)))
  | 7 => exact F4_ite (hX _ _ _ _ _ hb) (F4_ite (F4_ox (k4_f_X5_opens _ _ _ _ hb) (fun _ h66 => hX _ _ _ _ _ h66)) (hX _ _ _ _ _ hb))
  | 8 => exact hX _ _ _ _ _ hb
  | 9 => exact hX _ _ _ _ _ hb
  | 10 => exact F4_ite (hX _ _ _ _ _ hb) (F4_ox (k4_f_X2_advance _ _ _ _ hb) (fun _ h67 => hX _ _ _ _ _ h67))
  | 11 => exact F4_ite (hX _ _ _ _ _ hb) (F4_ite (hX _ _ _ _ _ hb) (F4_oP (fun _ => F4_ite (hX _ _ _ _ _ hb) (hX _ _ _ _ _ hb))))
  | 12 => exact F4_ite (hX _ _ _ _ _ hb) (hX _ _ _ _ _ hb)
  | 13 => exact F4_ite (hX _ _ _ _ _ hb) (F4_op (k4_y_X5_binaryOp _ _ _ _ hb) (fun _ h68 => F4_ox (k4_f_X5_postpone _ _ _ _ h68) (fun _ h69 => hX _ _ _ _ _ h69)))
  | 14 => exact hX _ _ _ _ _ hb
  | 15 => exact F4_ox (k4_f_X7_emit__P _ _ _ _ hb) (fun _ h70 => F4_ox (k4_f_X5_postpone _ _ _ _ h70) (fun _ h71 => hX _ _ _ _ _ h71))
  | 16 => exact hX _ _ _ _ _ hb
  | 17 => exact F4_ox (k4_f_X5_settle _ _ _ _ hb) (fun _ h72 => F4_ite (F4_op (k4_y_X5_postponedLevel _ _ _ _ h72) (fun _ h73 => F4_ite (hX _ _ _ _ _ h73) (hX _ _ _ _ _ h73))) (hX _ _ _ _ _ h72))
  | 18 => exact hX _ _ _ _ _ hb
  | 19 => exact hX _ _ _ _ _ hb
  | 20 => exact hX _ _ _ _ _ hb
  | 21 => exact hX _ _ _ _ _ hb
  | b + 22 => exact F4_no
theorem k4_t_X5_exps {X : Nat → Nat → Nat → LV → CS → Option RS} (hX : ∀ e m b L (σ : CS), K4 w σ → F4 w (X e m b L σ)) (K d b : Nat) (L : LV) (σ : CS) (hb : K4 w σ) : F4 w (t_X5_exps X K d b L σ) := by
  match b with
  | 0 => exact F4_of (fun _ => F4_ox (hX _ _ _ _ _ hb) (fun _ h74 => hX _ _ _ _ _ h74))
  | 1 => exact F4_ite (hX _ _ _ _ _ hb) (F4_ite (F4_ox (k4_f_X2_advance _ _ _ _ hb) (fun _ h75 => F4_of (fun _ => F4_ox (hX _ _ _ _ _ h75) (fun _ h76 => hX _ _ _ _ _ h76)))) (hX _ _ _ _ _ hb))
  | 2 => exact F4_so hb
  | b + 3 => exact F4_no
theorem k4_f_X7_word__P : ∀ (k b : Nat) (L : LV) (σ : CS), K4 w σ → F4 w (f_X7_word__P k b L σ) := by
  intro k
  induction k with
  | zero => intro b L σ _; exact F4_no
  | succ k ih =>
    intro b L σ hb
    match b with
    | 0 =>
      refine F4_eq (by rw [f_X7_word__P]) ?_
      exact F4_ox (k4_f_X7_widen__P _ _ _ _ hb) (fun _ h77 => F4_ite (F4_so (uI_K4 (fP_4 _ (by decide) (by decide)) (uA_K4 h77))) (F4_no))
    | b + 1 =>
      exact F4_eq (by rw [f_X7_word__P]) F4_no
theorem k4_f_X5_clear : ∀ (k b : Nat) (L : LV) (σ : CS), K4 w σ → F4 w (f_X5_clear k b L σ) := by
  intro k
  induction k with
  | zero => intro b L σ _; exact F4_no
  | succ k ih =>
    intro b L σ hb
    match b with
    | 0 =>
      refine F4_eq (by rw [f_X5_clear]) ?_
      exact F4_oP (fun _ => F4_ox (k4_f_X7_emit__P _ _ _ _ hb) (fun _ h78 => F4_oP (fun _ => F4_oP (fun _ => F4_ox (k4_f_X7_word__P _ _ _ _ h78) (fun _ h79 => F4_oP (fun _ => F4_so (uI_K4 (fP_4 _ (by decide) (by decide)) h79)))))))
    | b + 1 =>
      exact F4_eq (by rw [f_X5_clear]) F4_no
theorem k4_t_X5_former {X : Nat → Nat → Nat → LV → CS → Option RS} (hX : ∀ e m b L (σ : CS), K4 w σ → F4 w (X e m b L σ)) (K d b : Nat) (L : LV) (σ : CS) (hb : K4 w σ) : F4 w (t_X5_former X K d b L σ) := by
  match b with
  | 0 => exact F4_ox (k4_f_X2_advance _ _ _ _ hb) (fun _ h80 => F4_oP (fun _ => F4_oP (fun _ => F4_oP (fun _ => F4_ox (k4_f_X7_emit__P _ _ _ _ h80) (fun _ h81 => F4_of (fun _ => F4_ox (hX _ _ _ _ _ h81) (fun _ h82 => F4_ite (F4_ox (k4_f_X2_advance _ _ _ _ h82) (fun _ h83 => F4_of (fun _ => F4_ox (hX _ _ _ _ _ h83) (fun _ h84 => F4_oP (fun _ => F4_oP (fun _ => F4_ox (k4_f_X7_emit__P _ _ _ _ h84) (fun _ h85 => F4_op (k4_y_X7_aim__P _ _ _ _ h85) (fun _ h86 => hX _ _ _ _ _ h86)))))))) (hX _ _ _ _ _ h82))))))))
  | 1 => exact F4_ox (k4_f_X5_expect _ _ _ _ hb) (fun _ h87 => F4_of (fun _ => F4_ox (hX _ _ _ _ _ h87) (fun _ h88 => F4_oP (fun _ => F4_ox (k4_f_X7_emit__P _ _ _ _ h88) (fun _ h89 => F4_oP (fun _ => F4_oP (fun _ => F4_ox (k4_f_X7_emit__P _ _ _ _ h89) (fun _ h90 => F4_op (k4_y_X7_aim__P _ _ _ _ h90) (fun _ h91 => F4_oP (fun _ => F4_oP (fun _ => F4_ite (F4_ox (k4_f_X5_clear _ _ _ _ (uA_K4 h91)) (fun _ h92 => F4_oP (fun _ => F4_ox (k4_f_X7_emit__P _ _ _ _ h92) (fun _ h93 => F4_oP (fun _ => F4_so (uI_K4 (fP_4 _ (by decide) (by decide)) h93)))))) (F4_no))))))))))))
  | b + 2 => exact F4_no
theorem k4_t_X5_functionCall {X : Nat → Nat → Nat → LV → CS → Option RS} (hX : ∀ e m b L (σ : CS), K4 w σ → F4 w (X e m b L σ)) (K d b : Nat) (L : LV) (σ : CS) (hb : K4 w σ) : F4 w (t_X5_functionCall X K d b L σ) := by
  match b with
  | 0 => exact F4_oP (fun _ => F4_ox (k4_f_X7_emit__P _ _ _ _ hb) (fun _ h94 => F4_ox (k4_f_X5_opens _ _ _ _ h94) (fun _ h95 => F4_ite (hX _ _ _ _ _ h95) (hX _ _ _ _ _ h95))))
  | 1 => exact F4_of (fun _ => F4_ox (hX _ _ _ _ _ hb) (fun _ h96 => hX _ _ _ _ _ h96))
  | 2 => exact F4_ox (k4_f_X5_want _ _ _ _ hb) (fun _ h97 => F4_oP (fun _ => F4_ite (F4_ite (hX _ _ _ _ _ h97) (F4_ox (k4_f_X5_refuse _ _ _ _ h97) (fun _ h98 => hX _ _ _ _ _ h98))) (F4_no)))
  | 3 => exact F4_ox (k4_f_X5_closes _ _ _ _ hb) (fun _ h99 => F4_oP (fun _ => F4_ox (k4_f_X7_emit__P _ _ _ _ h99) (fun _ h100 => F4_oP (fun _ => F4_oP (fun _ => F4_ox (k4_f_X7_word__P _ _ _ _ h100) (fun _ h101 => F4_so h101))))))
  | b + 4 => exact F4_no
theorem k4_y_X7_newPassing__P : ∀ (k b : Nat) (L : LV) (σ : CS), K4 w σ → Y4 w (y_X7_newPassing__P k b L σ) := by
  intro k
  induction k with
  | zero => intro b L σ _; exact Y4_no
  | succ k ih =>
    intro b L σ hb
    match b with
    | 0 =>
      refine Y4_eq (by rw [y_X7_newPassing__P]) ?_
      exact Y4_so (uI_K4 (fP_4 _ (by decide) (by decide)) hb)
    | b + 1 =>
      exact Y4_eq (by rw [y_X7_newPassing__P]) Y4_no
theorem k4_f_X5_iterNames : ∀ (k b : Nat) (L : LV) (σ : CS), K4 w σ → F4 w (f_X5_iterNames k b L σ) := by
  intro k
  induction k with
  | zero => intro b L σ _; exact F4_no
  | succ k ih =>
    intro b L σ hb
    match b with
    | 0 =>
      refine F4_eq (by rw [f_X5_iterNames]) ?_
      exact F4_ite (ih _ _ _ hb) (F4_ox (k4_f_X5_opens _ _ _ _ hb) (fun _ h102 => ih _ _ _ h102))
    | 1 =>
      refine F4_eq (by rw [f_X5_iterNames]) ?_
      exact ih _ _ _ hb
    | 2 =>
      refine F4_eq (by rw [f_X5_iterNames]) ?_
      exact F4_ite (ih _ _ _ hb) (F4_ite (ih _ _ _ hb) (F4_ox (k4_f_X5_checkName _ _ _ _ hb) (fun _ h103 => F4_oP (fun _ => F4_ite (F4_ite (ih _ _ _ h103) (ih _ _ _ h103)) (F4_no)))))
    | 3 =>
      refine F4_eq (by rw [f_X5_iterNames]) ?_
      exact F4_ite (ih _ _ _ hb) (F4_ox (k4_f_X5_closes _ _ _ _ hb) (fun _ h104 => ih _ _ _ h104))
    | 4 =>
      refine F4_eq (by rw [f_X5_iterNames]) ?_
      exact ih _ _ _ hb
    | 5 =>
      refine F4_eq (by rw [f_X5_iterNames]) ?_
      exact F4_ite (F4_ite (ih _ _ _ (uA_K4 hb)) (F4_oP (fun _ => F4_op (k4_y_X7_newSlots__P _ _ _ _ (uA_K4 hb)) (fun _ h105 => ih _ _ _ h105)))) (F4_no)
    | 6 =>
      refine F4_eq (by rw [f_X5_iterNames]) ?_
      exact F4_so hb
    | 7 =>
      refine F4_eq (by rw [f_X5_iterNames]) ?_
      exact F4_oP (fun _ => F4_op (k4_y_X7_newPassing__P _ _ _ _ hb) (fun _ h106 => ih _ _ _ h106))
    | 8 =>
      refine F4_eq (by rw [f_X5_iterNames]) ?_
      exact F4_oP (fun _ => F4_ite (ih _ _ _ hb) (ih _ _ _ hb))
    | 9 =>
      refine F4_eq (by rw [f_X5_iterNames]) ?_
      exact ih _ _ _ hb
    | 10 =>
      refine F4_eq (by rw [f_X5_iterNames]) ?_
      exact F4_op (k4_y_X7_tell__P _ _ _ _ hb) (fun _ h107 => F4_oP (fun _ => F4_oP (fun _ => F4_ite (F4_ox (k4_f_X2_advance _ _ _ _ (uA_K4 h107)) (fun _ h108 => F4_ite (ih _ _ _ h108) (F4_ite (ih _ _ _ h108) (ih _ _ _ h108)))) (F4_no))))
    | 11 =>
      refine F4_eq (by rw [f_X5_iterNames]) ?_
      exact ih _ _ _ hb
    | 12 =>
      refine F4_eq (by rw [f_X5_iterNames]) ?_
      exact F4_ite (ih _ _ _ hb) (F4_ox (k4_f_X2_advance _ _ _ _ hb) (fun _ h109 => ih _ _ _ h109))
    | 13 =>
      refine F4_eq (by rw [f_X5_iterNames]) ?_
      exact ih _ _ _ hb
    | b + 14 =>
      exact F4_eq (by rw [f_X5_iterNames]) F4_no
theorem k4_f_X5_iterStore : ∀ (k b : Nat) (L : LV) (σ : CS), K4 w σ → F4 w (f_X5_iterStore k b L σ) := by
  intro k
  induction k with
  | zero => intro b L σ _; exact F4_no
  | succ k ih =>
    intro b L σ hb
    match b with
    | 0 =>
      refine F4_eq (by rw [f_X5_iterStore]) ?_
      exact F4_ite (F4_oP (fun _ => F4_ite (ih _ _ _ hb) (ih _ _ _ hb))) (ih _ _ _ hb)
    | 1 =>
      refine F4_eq (by rw [f_X5_iterStore]) ?_
      exact F4_oP (fun _ => F4_ite (ih _ _ _ hb) (ih _ _ _ hb))
    | 2 =>
      refine F4_eq (by rw [f_X5_iterStore]) ?_
      exact ih _ _ _ hb
    | 3 =>
      refine F4_eq (by rw [f_X5_iterStore]) ?_
      exact F4_ox (k4_f_X7_emit__P _ _ _ _ hb) (fun _ h110 => ih _ _ _ h110)
    | 4 =>
      refine F4_eq (by rw [f_X5_iterStore]) ?_
      exact ih _ _ _ hb
    | 5 =>
      refine F4_eq (by rw [f_X5_iterStore]) ?_
      exact F4_ox (k4_f_X7_emit__P _ _ _ _ hb) (fun _ h111 => F4_oP (fun _ => F4_ox (k4_f_X7_word__P _ _ _ _ h111) (fun _ h112 => ih _ _ _ h112)))
    | 6 =>
      refine F4_eq (by rw [f_X5_iterStore]) ?_
      exact F4_so hb
    | b + 7 =>
      exact F4_eq (by rw [f_X5_iterStore]) F4_no
theorem k4_f_X5_mark : ∀ (k b : Nat) (L : LV) (σ : CS), K4 w σ → F4 w (f_X5_mark k b L σ) := by
  intro k
  induction k with
  | zero => intro b L σ _; exact F4_no
  | succ k ih =>
    intro b L σ hb
    match b with
    | 0 =>
      refine F4_eq (by rw [f_X5_mark]) ?_
      exact F4_ox (k4_f_X5_widenMarks _ _ _ _ hb) (fun _ h113 => F4_ite (F4_so (uI_K4 (by decide) (uA_K4 h113))) (F4_no))
    | b + 1 =>
      exact F4_eq (by rw [f_X5_mark]) F4_no
theorem k4_t_X5_iters {X : Nat → Nat → Nat → LV → CS → Option RS} (hX : ∀ e m b L (σ : CS), K4 w σ → F4 w (X e m b L σ)) (K d b : Nat) (L : LV) (σ : CS) (hb : K4 w σ) : F4 w (t_X5_iters X K d b L σ) := by
  match b with
  | 0 => exact F4_oP (fun _ => hX _ _ _ _ _ hb)
  | 1 => exact F4_ite (hX _ _ _ _ _ hb) (F4_ite (hX _ _ _ _ _ hb) (F4_oP (fun _ => F4_ite (hX _ _ _ _ _ hb) (F4_oP (fun _ => F4_ite (hX _ _ _ _ _ hb) (F4_no))))))
  | 2 => exact F4_so (uI_K4 (by decide) (uI_K4 (by decide) hb))
  | 3 => exact F4_oP (fun _ => hX _ _ _ _ _ hb)
  | 4 => exact F4_ite (hX _ _ _ _ _ hb) (hX _ _ _ _ _ hb)
  | 5 => exact hX _ _ _ _ _ hb
  | 6 => exact F4_ox (k4_f_X5_iterNames _ _ _ _ hb) (fun _ h114 => F4_oP (fun _ => F4_ox (k4_f_X5_expect _ _ _ _ h114) (fun _ h115 => F4_of (fun _ => F4_ox (hX _ _ _ _ _ h115) (fun _ h116 => F4_ite (hX _ _ _ _ _ h116) (F4_oP (fun _ => F4_op (k4_y_X7_newSlots__P _ _ _ _ h116) (fun _ h117 => hX _ _ _ _ _ h117))))))))
  | 7 => exact F4_oP (fun _ => F4_op (k4_y_X7_newPassing__P _ _ _ _ hb) (fun _ h118 => hX _ _ _ _ _ h118))
  | 8 => exact F4_oP (fun _ => F4_ite (hX _ _ _ _ _ hb) (hX _ _ _ _ _ hb))
  | 9 => exact hX _ _ _ _ _ hb
  | 10 => exact F4_ox (k4_f_X7_emit__P _ _ _ _ hb) (fun _ h119 => F4_oP (fun _ => F4_ite (hX _ _ _ _ _ h119) (hX _ _ _ _ _ h119)))
  | 11 => exact hX _ _ _ _ _ hb
  | 12 => exact F4_ox (k4_f_X7_emit__P _ _ _ _ hb) (fun _ h120 => F4_oP (fun _ => F4_ox (k4_f_X7_word__P _ _ _ _ h120) (fun _ h121 => F4_ite (hX _ _ _ _ _ h121) (hX _ _ _ _ _ h121))))
  | 13 => exact hX _ _ _ _ _ hb
  | 14 => exact F4_ite (hX _ _ _ _ _ hb) (hX _ _ _ _ _ hb)
  | 15 => exact hX _ _ _ _ _ hb
  | 16 => exact F4_ox (k4_f_X5_iterStore _ _ _ _ hb) (fun _ h122 => hX _ _ _ _ _ h122)
  | 17 => exact F4_oP (fun _ => F4_ite (hX _ _ _ _ _ hb) (F4_oP (fun _ => F4_ite (hX _ _ _ _ _ (uA_K4 hb)) (F4_no))))
  | 18 => exact F4_ite (hX _ _ _ _ _ hb) (F4_ox (k4_f_X5_mark _ _ _ _ hb) (fun _ h123 => F4_ox (k4_f_X5_mark _ _ _ _ h123) (fun _ h124 => F4_ox (k4_f_X5_mark _ _ _ _ h124) (fun _ h125 => hX _ _ _ _ _ h125))))
  | 19 => exact F4_ite (hX _ _ _ _ _ hb) (hX _ _ _ _ _ hb)
  | 20 => exact hX _ _ _ _ _ hb
  | 21 => exact F4_ite (hX _ _ _ _ _ hb) (F4_ox (k4_f_X2_advance _ _ _ _ hb) (fun _ h126 => hX _ _ _ _ _ h126))
  | 22 => exact hX _ _ _ _ _ hb
  | b + 23 => exact F4_no
theorem k4_t_X5_members {X : Nat → Nat → Nat → LV → CS → Option RS} (hX : ∀ e m b L (σ : CS), K4 w σ → F4 w (X e m b L σ)) (K d b : Nat) (L : LV) (σ : CS) (hb : K4 w σ) : F4 w (t_X5_members X K d b L σ) := by
  match b with
  | 0 => exact hX _ _ _ _ _ hb
  | 1 => exact F4_ite (hX _ _ _ _ _ hb) (F4_ite (F4_ox (k4_f_X2_advance _ _ _ _ hb) (fun _ h127 => F4_ite (F4_oP (fun _ => F4_ox (k4_f_X7_emit__P _ _ _ _ h127) (fun _ h128 => hX _ _ _ _ _ h128))) (hX _ _ _ _ _ h127))) (hX _ _ _ _ _ hb))
  | 2 => exact F4_oP (fun _ => F4_ite (hX _ _ _ _ _ hb) (hX _ _ _ _ _ hb))
  | 3 => exact F4_of (fun _ => F4_ox (hX _ _ _ _ _ hb) (fun _ h129 => F4_ite (hX _ _ _ _ _ h129) (F4_oP (fun _ => F4_ox (k4_f_X7_emit__P _ _ _ _ h129) (fun _ h130 => hX _ _ _ _ _ h130)))))
  | 4 => exact hX _ _ _ _ _ hb
  | 5 => exact F4_ox (k4_f_X7_emit__P _ _ _ _ hb) (fun _ h131 => F4_so h131)
  | 6 => exact F4_ite (F4_ite (F4_ox (k4_f_X2_advance _ _ _ _ hb) (fun _ h132 => F4_of (fun _ => F4_ox (hX _ _ _ _ _ h132) (fun _ h133 => F4_oP (fun _ => F4_ox (k4_f_X7_emit__P _ _ _ _ h133) (fun _ h134 => F4_so h134)))))) (hX _ _ _ _ _ hb)) (hX _ _ _ _ _ hb)
  | 7 => exact hX _ _ _ _ _ hb
  | b + 8 => exact F4_no
theorem k4_y_X7_found__P : ∀ (k b : Nat) (L : LV) (σ : CS), K4 w σ → Y4 w (y_X7_found__P k b L σ) := by
  intro k
  induction k with
  | zero => intro b L σ _; exact Y4_no
  | succ k ih =>
    intro b L σ hb
    match b with
    | 0 =>
      refine Y4_eq (by rw [y_X7_found__P]) ?_
      exact ih _ _ _ hb
    | 1 =>
      refine Y4_eq (by rw [y_X7_found__P]) ?_
      exact Y4_ite (ih _ _ _ hb) (Y4_ite (Y4_ite (Y4_ite (Y4_ite (Y4_ite (Y4_ite (Y4_so hb) (ih _ _ _ hb)) (Y4_no)) (ih _ _ _ hb)) (Y4_no)) (ih _ _ _ hb)) (Y4_no))
    | 2 =>
      refine Y4_eq (by rw [y_X7_found__P]) ?_
      exact Y4_so hb
    | 3 =>
      refine Y4_eq (by rw [y_X7_found__P]) ?_
      exact ih _ _ _ hb
    | b + 4 =>
      exact Y4_eq (by rw [y_X7_found__P]) Y4_no
theorem k4_f_X5_takenName : ∀ (k b : Nat) (L : LV) (σ : CS), K4 w σ → F4 w (f_X5_takenName k b L σ) := by
  intro k
  induction k with
  | zero => intro b L σ _; exact F4_no
  | succ k ih =>
    intro b L σ hb
    match b with
    | 0 =>
      refine F4_eq (by rw [f_X5_takenName]) ?_
      exact F4_ox (k4_f_X2_advance _ _ _ _ hb) (fun _ h135 => F4_oP (fun _ => F4_op (k4_y_X7_found__P _ _ _ _ h135) (fun _ h136 => F4_so h136)))
    | b + 1 =>
      exact F4_eq (by rw [f_X5_takenName]) F4_no
theorem k4_t_X5_named {X : Nat → Nat → Nat → LV → CS → Option RS} (hX : ∀ e m b L (σ : CS), K4 w σ → F4 w (X e m b L σ)) (K d b : Nat) (L : LV) (σ : CS) (hb : K4 w σ) : F4 w (t_X5_named X K d b L σ) := by
  match b with
  | 0 => exact F4_ox (k4_f_X5_takenName _ _ _ _ hb) (fun _ h137 => F4_ite (hX _ _ _ _ _ h137) (hX _ _ _ _ _ h137))
  | 1 => exact F4_oP (fun _ => F4_ite (hX _ _ _ _ _ hb) (F4_no))
  | 2 => exact F4_ite (hX _ _ _ _ _ hb) (F4_ite (F4_ite (hX _ _ _ _ _ hb) (hX _ _ _ _ _ hb)) (hX _ _ _ _ _ hb))
  | 3 => exact F4_ox (k4_f_X5_refuse _ _ _ _ hb) (fun _ h138 => hX _ _ _ _ _ h138)
  | 4 => exact F4_ite (F4_oP (fun _ => F4_ite (F4_of (fun _ => F4_ox (hX _ _ _ _ _ hb) (fun _ h139 => F4_so h139))) (F4_no))) (hX _ _ _ _ _ hb)
  | 5 => exact F4_ite (hX _ _ _ _ _ hb) (hX _ _ _ _ _ hb)
  | 6 => exact hX _ _ _ _ _ hb
  | 7 => exact F4_oP (fun _ => F4_oP (fun _ => F4_ite (F4_ite (hX _ _ _ _ _ hb) (hX _ _ _ _ _ hb)) (F4_no)))
  | 8 => exact hX _ _ _ _ _ hb
  | 9 => exact F4_oP (fun _ => F4_ite (F4_ox (k4_f_X7_emit__P _ _ _ _ hb) (fun _ h140 => F4_so h140)) (F4_no))
  | b + 10 => exact F4_no
theorem k4_t_X5_operand {X : Nat → Nat → Nat → LV → CS → Option RS} (hX : ∀ e m b L (σ : CS), K4 w σ → F4 w (X e m b L σ)) (K d b : Nat) (L : LV) (σ : CS) (hb : K4 w σ) : F4 w (t_X5_operand X K d b L σ) := by
  match b with
  | 0 => exact F4_of (fun _ => F4_ox (hX _ _ _ _ _ hb) (fun _ h141 => hX _ _ _ _ _ h141))
  | 1 => exact F4_ite (hX _ _ _ _ _ hb) (F4_ite (hX _ _ _ _ _ hb) (F4_ite (hX _ _ _ _ _ hb) (hX _ _ _ _ _ hb)))
  | 2 => exact F4_ite (hX _ _ _ _ _ hb) (hX _ _ _ _ _ hb)
  | 3 => exact F4_oP (fun _ => F4_of (fun _ => F4_ox (hX _ _ _ _ _ hb) (fun _ h142 => F4_ox (k4_f_X5_mark _ _ _ _ h142) (fun _ h143 => F4_oP (fun _ => F4_ox (k4_f_X5_mark _ _ _ _ h143) (fun _ h144 => F4_ox (k4_f_X5_mark _ _ _ _ h144) (fun _ h145 => F4_oP (fun _ => F4_ox (k4_f_X7_emit__P _ _ _ _ h145) (fun _ h146 => hX _ _ _ _ _ h146)))))))))
  | 4 => exact hX _ _ _ _ _ hb
  | 5 => exact F4_oP (fun _ => hX _ _ _ _ _ (uI_K4 (by decide) (uI_K4 (by decide) (uI_K4 (by decide) hb))))
  | 6 => exact hX _ _ _ _ _ (uI_K4 (by decide) (uI_K4 (by decide) (uI_K4 (by decide) hb)))
  | 7 => exact F4_so hb
  | b + 8 => exact F4_no
theorem k4_t_X5_part {X : Nat → Nat → Nat → LV → CS → Option RS} (hX : ∀ e m b L (σ : CS), K4 w σ → F4 w (X e m b L σ)) (K d b : Nat) (L : LV) (σ : CS) (hb : K4 w σ) : F4 w (t_X5_part X K d b L σ) := by
  match b with
  | 0 => exact F4_ite (F4_ox (k4_f_X5_opens _ _ _ _ hb) (fun _ h147 => F4_of (fun _ => F4_ox (hX _ _ _ _ _ h147) (fun _ h148 => F4_ox (k4_f_X5_closes _ _ _ _ h148) (fun _ h149 => F4_so h149))))) (hX _ _ _ _ _ hb)
  | 1 => exact F4_ox (k4_f_X5_opens _ _ _ _ hb) (fun _ h150 => F4_of (fun _ => F4_ox (hX _ _ _ _ _ h150) (fun _ h151 => F4_ite (F4_ox (k4_f_X2_advance _ _ _ _ h151) (fun _ h152 => F4_of (fun _ => F4_ox (hX _ _ _ _ _ h152) (fun _ h153 => hX _ _ _ _ _ h153)))) (hX _ _ _ _ _ h151))))
  | 2 => exact F4_ox (k4_f_X5_closes _ _ _ _ hb) (fun _ h154 => F4_so h154)
  | b + 3 => exact F4_no
theorem k4_y_X10_readDigits__z38 : ∀ (k b : Nat) (L : LV) (σ : CS), K4 w σ → Y4 w (y_X10_readDigits__z38 k b L σ) := by
  intro k
  induction k with
  | zero => intro b L σ _; exact Y4_no
  | succ k ih =>
    intro b L σ hb
    match b with
    | 0 =>
      refine Y4_eq (by rw [y_X10_readDigits__z38]) ?_
      exact ih _ _ _ hb
    | 1 =>
      refine Y4_eq (by rw [y_X10_readDigits__z38]) ?_
      exact Y4_ite (ih _ _ _ hb) (Y4_ite (ih _ _ _ hb) (Y4_no))
    | 2 =>
      refine Y4_eq (by rw [y_X10_readDigits__z38]) ?_
      exact Y4_so (uI_K4 (by decide) hb)
    | 3 =>
      refine Y4_eq (by rw [y_X10_readDigits__z38]) ?_
      exact Y4_ite (ih _ _ _ hb) (Y4_ite (Y4_ite (ih _ _ _ (uA_K4 hb)) (Y4_no)) (Y4_no))
    | 4 =>
      refine Y4_eq (by rw [y_X10_readDigits__z38]) ?_
      exact Y4_ite (ih _ _ _ hb) (Y4_ite (ih _ _ _ hb) (Y4_ite (ih _ _ _ (uA_K4 hb)) (Y4_no)))
    | 5 =>
      refine Y4_eq (by rw [y_X10_readDigits__z38]) ?_
      exact ih _ _ _ hb
    | b + 6 =>
      exact Y4_eq (by rw [y_X10_readDigits__z38]) Y4_no
theorem k4_y_X10_resultLimb : ∀ (k b : Nat) (L : LV) (σ : CS), K4 w σ → Y4 w (y_X10_resultLimb k b L σ) := by
  intro k
  induction k with
  | zero => intro b L σ _; exact Y4_no
  | succ k ih =>
    intro b L σ hb
    match b with
    | 0 =>
      refine Y4_eq (by rw [y_X10_resultLimb]) ?_
      exact Y4_ite (ih _ _ _ hb) (Y4_ite (ih _ _ _ hb) (Y4_ite (ih _ _ _ hb) (Y4_no)))
    | 1 =>
      refine Y4_eq (by rw [y_X10_resultLimb]) ?_
      exact ih _ _ _ hb
    | 2 =>
      refine Y4_eq (by rw [y_X10_resultLimb]) ?_
      exact Y4_so hb
    | b + 3 =>
      exact Y4_eq (by rw [y_X10_resultLimb]) Y4_no
theorem k4_y_X10_small : ∀ (k b : Nat) (L : LV) (σ : CS), K4 w σ → Y4 w (y_X10_small k b L σ) := by
  intro k
  induction k with
  | zero => intro b L σ _; exact Y4_no
  | succ k ih =>
    intro b L σ hb
    match b with
    | 0 =>
      refine Y4_eq (by rw [y_X10_small]) ?_
      exact Y4_so hb
    | b + 1 =>
      exact Y4_eq (by rw [y_X10_small]) Y4_no
theorem k4_y_X1_header : ∀ (k b : Nat) (L : LV) (σ : CS), K4 w σ → Y4 w (y_X1_header k b L σ) := by
  intro k
  induction k with
  | zero => intro b L σ _; exact Y4_no
  | succ k ih =>
    intro b L σ hb
    match b with
    | 0 =>
      refine Y4_eq (by rw [y_X1_header]) ?_
      exact Y4_so hb
    | b + 1 =>
      exact Y4_eq (by rw [y_X1_header]) Y4_no
theorem k4_f_X5_number : ∀ (k b : Nat) (L : LV) (σ : CS), K4 w σ → F4 w (f_X5_number k b L σ) := by
  intro k
  induction k with
  | zero => intro b L σ _; exact F4_no
  | succ k ih =>
    intro b L σ hb
    match b with
    | 0 =>
      refine F4_eq (by rw [f_X5_number]) ?_
      exact F4_op (k4_y_X10_readDigits__z38 _ _ _ _ hb) (fun _ h155 => F4_op (k4_y_X10_resultLimb _ _ _ _ h155) (fun _ h156 => F4_ite (ih _ _ _ h156) (F4_ite (F4_ite (ih _ _ _ h156) (F4_ite (ih _ _ _ h156) (ih _ _ _ h156))) (ih _ _ _ h156))))
    | 1 =>
      refine F4_eq (by rw [f_X5_number]) ?_
      exact F4_oP (fun _ => F4_ox (k4_f_X7_emit__P _ _ _ _ hb) (fun _ h157 => F4_oP (fun _ => F4_op (k4_y_X10_small _ _ _ _ h157) (fun _ h158 => F4_ox (k4_f_X7_word__P _ _ _ _ h158) (fun _ h159 => ih _ _ _ h159)))))
    | 2 =>
      refine F4_eq (by rw [f_X5_number]) ?_
      exact F4_oP (fun _ => F4_ox (k4_f_X7_emit__P _ _ _ _ hb) (fun _ h160 => F4_oP (fun _ => F4_op (k4_y_X1_header _ _ _ _ h160) (fun _ h161 => F4_ox (k4_f_X7_word__P _ _ _ _ h161) (fun _ h162 => ih _ _ _ h162)))))
    | 3 =>
      refine F4_eq (by rw [f_X5_number]) ?_
      exact F4_ox (k4_f_X2_advance _ _ _ _ hb) (fun _ h163 => F4_so h163)
    | 4 =>
      refine F4_eq (by rw [f_X5_number]) ?_
      exact F4_ite (ih _ _ _ hb) (F4_oP (fun _ => F4_op (k4_y_X10_resultLimb _ _ _ _ hb) (fun _ h164 => F4_ox (k4_f_X7_word__P _ _ _ _ h164) (fun _ h165 => ih _ _ _ h165))))
    | b + 5 =>
      exact F4_eq (by rw [f_X5_number]) F4_no
theorem k4_f_X5_string : ∀ (k b : Nat) (L : LV) (σ : CS), K4 w σ → F4 w (f_X5_string k b L σ) := by
  intro k
  induction k with
  | zero => intro b L σ _; exact F4_no
  | succ k ih =>
    intro b L σ hb
    match b with
    | 0 =>
      refine F4_eq (by rw [f_X5_string]) ?_
      exact F4_ite (ih _ _ _ hb) (F4_oP (fun _ => F4_ox (k4_f_X7_emit__P _ _ _ _ hb) (fun _ h166 => F4_oP (fun _ => F4_ite (ih _ _ _ h166) (ih _ _ _ h166)))))
    | 1 =>
      refine F4_eq (by rw [f_X5_string]) ?_
      exact F4_oP (fun _ => F4_ox (k4_f_X7_emit__P _ _ _ _ hb) (fun _ h167 => F4_oP (fun _ => F4_op (k4_y_X1_header _ _ _ _ h167) (fun _ h168 => F4_ox (k4_f_X7_word__P _ _ _ _ h168) (fun _ h169 => ih _ _ _ h169)))))
    | 2 =>
      refine F4_eq (by rw [f_X5_string]) ?_
      exact F4_ite (ih _ _ _ hb) (F4_no)
    | 3 =>
      refine F4_eq (by rw [f_X5_string]) ?_
      exact F4_ox (k4_f_X7_word__P _ _ _ _ hb) (fun _ h170 => ih _ _ _ h170)
    | 4 =>
      refine F4_eq (by rw [f_X5_string]) ?_
      exact F4_ite (ih _ _ _ hb) (F4_oP (fun _ => F4_ox (k4_f_X7_word__P _ _ _ _ hb) (fun _ h171 => ih _ _ _ h171)))
    | 5 =>
      refine F4_eq (by rw [f_X5_string]) ?_
      exact F4_ox (k4_f_X2_advance _ _ _ _ hb) (fun _ h172 => F4_so h172)
    | 6 =>
      refine F4_eq (by rw [f_X5_string]) ?_
      exact ih _ _ _ hb
    | 7 =>
      refine F4_eq (by rw [f_X5_string]) ?_
      exact F4_ite (ih _ _ _ hb) (F4_oP (fun _ => F4_ite (F4_ite (F4_ite (ih _ _ _ (uA_K4 hb)) (F4_no)) (F4_no)) (F4_no)))
    | b + 8 =>
      exact F4_eq (by rw [f_X5_string]) F4_no
theorem k4_f_X5_push : ∀ (k b : Nat) (L : LV) (σ : CS), K4 w σ → F4 w (f_X5_push k b L σ) := by
  intro k
  induction k with
  | zero => intro b L σ _; exact F4_no
  | succ k ih =>
    intro b L σ hb
    match b with
    | 0 =>
      refine F4_eq (by rw [f_X5_push]) ?_
      exact F4_oP (fun _ => F4_ox (k4_f_X7_emit__P _ _ _ _ hb) (fun _ h173 => F4_oP (fun _ => F4_ox (k4_f_X7_word__P _ _ _ _ h173) (fun _ h174 => F4_so h174))))
    | b + 1 =>
      exact F4_eq (by rw [f_X5_push]) F4_no
theorem k4_y_X11_truth : ∀ (k b : Nat) (L : LV) (σ : CS), K4 w σ → Y4 w (y_X11_truth k b L σ) := by
  intro k
  induction k with
  | zero => intro b L σ _; exact Y4_no
  | succ k ih =>
    intro b L σ hb
    match b with
    | 0 =>
      refine Y4_eq (by rw [y_X11_truth]) ?_
      exact Y4_ite (ih _ _ _ hb) (ih _ _ _ hb)
    | 1 =>
      refine Y4_eq (by rw [y_X11_truth]) ?_
      exact ih _ _ _ hb
    | 2 =>
      refine Y4_eq (by rw [y_X11_truth]) ?_
      exact Y4_so hb
    | b + 3 =>
      exact Y4_eq (by rw [y_X11_truth]) Y4_no
theorem k4_t_X5_primary {X : Nat → Nat → Nat → LV → CS → Option RS} (hX : ∀ e m b L (σ : CS), K4 w σ → F4 w (X e m b L σ)) (K d b : Nat) (L : LV) (σ : CS) (hb : K4 w σ) : F4 w (t_X5_primary X K d b L σ) := by
  match b with
  | 0 => exact F4_ite (hX _ _ _ _ _ hb) (F4_ite (hX _ _ _ _ _ hb) (F4_ite (hX _ _ _ _ _ hb) (F4_ite (hX _ _ _ _ _ hb) (F4_ite (hX _ _ _ _ _ hb) (F4_ite (hX _ _ _ _ _ hb) (F4_ite (hX _ _ _ _ _ hb) (F4_ite (hX _ _ _ _ _ hb) (F4_ite (hX _ _ _ _ _ hb) (F4_ite (hX _ _ _ _ _ hb) (F4_ite (hX _ _ _ _ _ hb) (F4_ite (hX _ _ _ _ _ hb) (hX _ _ _ _ _ hb))))))))))))
  | 1 => exact F4_of (fun _ => F4_ox (hX _ _ _ _ _ hb) (fun _ h175 => F4_so h175))
  | 2 => exact F4_ox (k4_f_X5_number _ _ _ _ hb) (fun _ h176 => hX _ _ _ _ _ h176)
  | 3 => exact F4_ox (k4_f_X5_string _ _ _ _ hb) (fun _ h177 => hX _ _ _ _ _ h177)
  | 4 => exact F4_ox (k4_f_X5_opens _ _ _ _ hb) (fun _ h178 => F4_of (fun _ => F4_ox (hX _ _ _ _ _ h178) (fun _ h179 => F4_ox (k4_f_X5_closes _ _ _ _ h179) (fun _ h180 => hX _ _ _ _ _ h180))))
  | 5 => exact F4_of (fun _ => F4_ox (hX _ _ _ _ _ hb) (fun _ h181 => hX _ _ _ _ _ h181))
  | 6 => exact F4_of (fun _ => F4_ox (hX _ _ _ _ _ hb) (fun _ h182 => hX _ _ _ _ _ h182))
  | 7 => exact F4_of (fun _ => F4_ox (hX _ _ _ _ _ hb) (fun _ h183 => hX _ _ _ _ _ h183))
  | 8 => exact F4_ite (hX _ _ _ _ _ hb) (hX _ _ _ _ _ hb)
  | 9 => exact F4_of (fun _ => F4_ox (hX _ _ _ _ _ hb) (fun _ h184 => hX _ _ _ _ _ h184))
  | 10 => exact F4_of (fun _ => F4_ox (hX _ _ _ _ _ hb) (fun _ h185 => hX _ _ _ _ _ h185))
  | 11 => exact F4_so hb
  | 12 => exact F4_ite (hX _ _ _ _ _ hb) (hX _ _ _ _ _ hb)
  | 13 => exact F4_ox (k4_f_X5_push _ _ _ _ hb) (fun _ h186 => F4_ox (k4_f_X2_advance _ _ _ _ h186) (fun _ h187 => hX _ _ _ _ _ h187))
  | 14 => exact hX _ _ _ _ _ hb
  | 15 => exact F4_op (k4_y_X11_truth _ _ _ _ hb) (fun _ h188 => hX _ _ _ _ _ h188)
  | b + 16 => exact F4_no
theorem k4_t_X5_quantifier {X : Nat → Nat → Nat → LV → CS → Option RS} (hX : ∀ e m b L (σ : CS), K4 w σ → F4 w (X e m b L σ)) (K d b : Nat) (L : LV) (σ : CS) (hb : K4 w σ) : F4 w (t_X5_quantifier X K d b L σ) := by
  match b with
  | 0 => exact F4_ite (hX _ _ _ _ _ hb) (hX _ _ _ _ _ hb)
  | 1 => exact hX _ _ _ _ _ hb
  | 2 => exact F4_ox (k4_f_X5_opens _ _ _ _ hb) (fun _ h189 => F4_oP (fun _ => F4_oP (fun _ => F4_of (fun _ => F4_ox (hX _ _ _ _ _ h189) (fun _ h190 => F4_ox (k4_f_X5_expect _ _ _ _ h190) (fun _ h191 => F4_of (fun _ => F4_ox (hX _ _ _ _ _ h191) (fun _ h192 => F4_oP (fun _ => F4_oP (fun _ => F4_ite (hX _ _ _ _ _ (uI_K4 (by decide) h192)) (hX _ _ _ _ _ (uI_K4 (by decide) h192))))))))))))
  | 3 => exact hX _ _ _ _ _ hb
  | 4 => exact F4_ox (k4_f_X7_emit__P _ _ _ _ hb) (fun _ h193 => F4_op (k4_y_X7_aim__P _ _ _ _ h193) (fun _ h194 => F4_op (k4_y_X11_truth _ _ _ _ h194) (fun _ h195 => F4_ox (k4_f_X5_push _ _ _ _ h195) (fun _ h196 => F4_oP (fun _ => F4_ox (k4_f_X7_emit__P _ _ _ _ h196) (fun _ h197 => F4_oP (fun _ => F4_oP (fun _ => F4_ite (F4_ite (hX _ _ _ _ _ (uA_K4 h197)) (hX _ _ _ _ _ (uA_K4 h197))) (F4_no)))))))))
  | 5 => exact hX _ _ _ _ _ hb
  | 6 => exact F4_op (k4_y_X11_truth _ _ _ _ hb) (fun _ h198 => F4_ox (k4_f_X5_push _ _ _ _ h198) (fun _ h199 => F4_oP (fun _ => F4_oP (fun _ => F4_op (k4_y_X7_aim__P _ _ _ _ h199) (fun _ h200 => F4_ox (k4_f_X5_clear _ _ _ _ h200) (fun _ h201 => F4_oP (fun _ => F4_ox (k4_f_X7_emit__P _ _ _ _ h201) (fun _ h202 => F4_oP (fun _ => F4_so (uI_K4 (fP_4 _ (by decide) (by decide)) h202))))))))))
  | b + 7 => exact F4_no
theorem k4_t_X5_row {X : Nat → Nat → Nat → LV → CS → Option RS} (hX : ∀ e m b L (σ : CS), K4 w σ → F4 w (X e m b L σ)) (K d b : Nat) (L : LV) (σ : CS) (hb : K4 w σ) : F4 w (t_X5_row X K d b L σ) := by
  match b with
  | 0 => exact F4_ox (k4_f_X5_opens _ _ _ _ hb) (fun _ h203 => F4_ite (F4_of (fun _ => F4_ox (hX _ _ _ _ _ h203) (fun _ h204 => hX _ _ _ _ _ h204))) (hX _ _ _ _ _ h203))
  | 1 => exact F4_ite (F4_oP (fun _ => F4_ox (k4_f_X7_emit__P _ _ _ _ hb) (fun _ h205 => hX _ _ _ _ _ h205))) (hX _ _ _ _ _ hb)
  | 2 => exact F4_ox (k4_f_X5_closes _ _ _ _ hb) (fun _ h206 => F4_so h206)
  | 3 => exact F4_of (fun _ => F4_ox (hX _ _ _ _ _ hb) (fun _ h207 => F4_ite (F4_ox (k4_f_X2_advance _ _ _ _ h207) (fun _ h208 => F4_of (fun _ => F4_ox (hX _ _ _ _ _ h208) (fun _ h209 => F4_oP (fun _ => F4_ox (k4_f_X7_emit__P _ _ _ _ h209) (fun _ h210 => hX _ _ _ _ _ h210)))))) (hX _ _ _ _ _ h207)))
  | 4 => exact F4_of (fun _ => F4_ox (hX _ _ _ _ _ hb) (fun _ h211 => hX _ _ _ _ _ h211))
  | b + 5 => exact F4_no
theorem k4_y_X5_wordOp : ∀ (k b : Nat) (L : LV) (σ : CS), K4 w σ → Y4 w (y_X5_wordOp k b L σ) := by
  intro k
  induction k with
  | zero => intro b L σ _; exact Y4_no
  | succ k ih =>
    intro b L σ hb
    match b with
    | 0 =>
      refine Y4_eq (by rw [y_X5_wordOp]) ?_
      exact Y4_ite (ih _ _ _ hb) (Y4_ite (ih _ _ _ hb) (Y4_so hb))
    | 1 =>
      refine Y4_eq (by rw [y_X5_wordOp]) ?_
      exact Y4_ite (ih _ _ _ hb) (ih _ _ _ hb)
    | 2 =>
      refine Y4_eq (by rw [y_X5_wordOp]) ?_
      exact ih _ _ _ hb
    | 3 =>
      refine Y4_eq (by rw [y_X5_wordOp]) ?_
      exact Y4_so hb
    | b + 4 =>
      exact Y4_eq (by rw [y_X5_wordOp]) Y4_no
theorem k4_t_X5_word {X : Nat → Nat → Nat → LV → CS → Option RS} (hX : ∀ e m b L (σ : CS), K4 w σ → F4 w (X e m b L σ)) (K d b : Nat) (L : LV) (σ : CS) (hb : K4 w σ) : F4 w (t_X5_word X K d b L σ) := by
  match b with
  | 0 => exact F4_ite (F4_ite (hX _ _ _ _ _ hb) (hX _ _ _ _ _ hb)) (hX _ _ _ _ _ hb)
  | 1 => exact hX _ _ _ _ _ hb
  | 2 => exact F4_ite (F4_ite (F4_ox (k4_f_X2_advance _ _ _ _ hb) (fun _ h212 => F4_oP (fun _ => F4_ox (k4_f_X7_emit__P _ _ _ _ h212) (fun _ h213 => F4_so h213)))) (hX _ _ _ _ _ hb)) (hX _ _ _ _ _ hb)
  | 3 => exact F4_op (k4_y_X5_wordOp _ _ _ _ hb) (fun _ h214 => F4_ite (F4_ite (F4_ox (k4_f_X5_refuse _ _ _ _ h214) (fun _ h215 => hX _ _ _ _ _ h215)) (hX _ _ _ _ _ h214)) (hX _ _ _ _ _ h214))
  | 4 => exact F4_ox (k4_f_X2_advance _ _ _ _ hb) (fun _ h216 => F4_ox (k4_f_X5_want _ _ _ _ h216) (fun _ h217 => F4_ox (k4_f_X5_opens _ _ _ _ h217) (fun _ h218 => F4_of (fun _ => F4_ox (hX _ _ _ _ _ h218) (fun _ h219 => F4_ox (k4_f_X5_closes _ _ _ _ h219) (fun _ h220 => F4_oP (fun _ => F4_ite (hX _ _ _ _ _ h220) (hX _ _ _ _ _ h220))))))))
  | 5 => exact hX _ _ _ _ _ hb
  | 6 => exact F4_ox (k4_f_X7_emit__P _ _ _ _ hb) (fun _ h221 => F4_so h221)
  | b + 7 => exact F4_no
theorem k4_f_F2 : ∀ (k d m b : Nat) (L : LV) (σ : CS), K4 w σ → F4 w (f_F2 k d m b L σ) := by
  intro k
  induction k with
  | zero => intro d m b L σ _; exact F4_no
  | succ k ih =>
    intro d m b L σ hb
    match m with
    | 0 => exact k4_t_X5_choice ih k d b L σ hb
    | 1 => exact k4_t_X5_exp ih k d b L σ hb
    | 2 => exact k4_t_X5_exps ih k d b L σ hb
    | 3 => exact k4_t_X5_former ih k d b L σ hb
    | 4 => exact k4_t_X5_functionCall ih k d b L σ hb
    | 5 => exact k4_t_X5_iters ih k d b L σ hb
    | 6 => exact k4_t_X5_members ih k d b L σ hb
    | 7 => exact k4_t_X5_named ih k d b L σ hb
    | 8 => exact k4_t_X5_operand ih k d b L σ hb
    | 9 => exact k4_t_X5_part ih k d b L σ hb
    | 10 => exact k4_t_X5_primary ih k d b L σ hb
    | 11 => exact k4_t_X5_quantifier ih k d b L σ hb
    | 12 => exact k4_t_X5_row ih k d b L σ hb
    | 13 => exact k4_t_X5_word ih k d b L σ hb
    | m + 14 => exact F4_no
theorem k4_f_X5_exp (k b : Nat) (L : LV) (σ : CS) (hb : K4 w σ) : F4 w (f_X5_exp k b L σ) := k4_f_F2 k 400 1 b L σ hb
theorem k4_y_X5_closeUnit : ∀ (k b : Nat) (L : LV) (σ : CS), K4 w σ → Y4 w (y_X5_closeUnit k b L σ) := by
  intro k
  induction k with
  | zero => intro b L σ _; exact Y4_no
  | succ k ih =>
    intro b L σ hb
    match b with
    | 0 =>
      refine Y4_eq (by rw [y_X5_closeUnit]) ?_
      exact Y4_oB (fun _ => ih _ _ _ (uI_K4 (by decide) (uI_K4 (by decide) (uI_K4 (fP_4 _ (by decide) (by decide)) hb))))
    | 1 =>
      refine Y4_eq (by rw [y_X5_closeUnit]) ?_
      exact Y4_so hb
    | b + 2 =>
      exact Y4_eq (by rw [y_X5_closeUnit]) Y4_no
theorem k4_f_X5_function : ∀ (k b : Nat) (L : LV) (σ : CS), K4 w σ → F4 w (f_X5_function k b L σ) := by
  intro k
  induction k with
  | zero => intro b L σ _; exact F4_no
  | succ k ih =>
    intro b L σ hb
    match b with
    | 0 =>
      refine F4_eq (by rw [f_X5_function]) ?_
      exact F4_ox (k4_f_X5_tellUnit _ _ _ _ hb) (fun _ h222 => F4_ite (ih _ _ _ (uI_K4 (by decide) h222)) (F4_ox (k4_f_X5_parameter _ _ _ _ (uI_K4 (by decide) h222)) (fun _ h223 => ih _ _ _ h223)))
    | 1 =>
      refine F4_eq (by rw [f_X5_function]) ?_
      exact F4_ox (k4_f_X5_closes _ _ _ _ hb) (fun _ h224 => F4_ox (k4_f_X5_expect _ _ _ _ h224) (fun _ h225 => F4_ox (k4_f_X5_exp _ _ _ _ h225) (fun _ h226 => F4_oP (fun _ => F4_ox (k4_f_X7_emit__P _ _ _ _ h226) (fun _ h227 => F4_ox (k4_f_X5_expect _ _ _ _ h227) (fun _ h228 => F4_op (k4_y_X5_closeUnit _ _ _ _ h228) (fun _ h229 => F4_so h229)))))))
    | 2 =>
      refine F4_eq (by rw [f_X5_function]) ?_
      exact F4_ite (ih _ _ _ hb) (F4_ite (F4_ox (k4_f_X2_advance _ _ _ _ hb) (fun _ h230 => F4_ox (k4_f_X5_parameter _ _ _ _ h230) (fun _ h231 => ih _ _ _ h231))) (ih _ _ _ hb))
    | b + 3 =>
      exact F4_eq (by rw [f_X5_function]) F4_no
theorem k4_f_X5_modeAndParameter : ∀ (k b : Nat) (L : LV) (σ : CS), K4 w σ → F4 w (f_X5_modeAndParameter k b L σ) := by
  intro k
  induction k with
  | zero => intro b L σ _; exact F4_no
  | succ k ih =>
    intro b L σ hb
    match b with
    | 0 =>
      refine F4_eq (by rw [f_X5_modeAndParameter]) ?_
      exact F4_ite (ih _ _ _ hb) (F4_ite (ih _ _ _ hb) (F4_ite (ih _ _ _ hb) (ih _ _ _ hb)))
    | 1 =>
      refine F4_eq (by rw [f_X5_modeAndParameter]) ?_
      exact F4_ox (k4_f_X2_advance _ _ _ _ hb) (fun _ h232 => ih _ _ _ h232)
    | 2 =>
      refine F4_eq (by rw [f_X5_modeAndParameter]) ?_
      exact F4_oP (fun _ => F4_ite (F4_ox (k4_f_X5_parameter _ _ _ _ hb) (fun _ h233 => F4_oP (fun _ => F4_oP (fun _ => F4_ite (F4_ite (F4_so (uA_K4 h233)) (F4_no)) (F4_no))))) (F4_no))
    | b + 3 =>
      exact F4_eq (by rw [f_X5_modeAndParameter]) F4_no
theorem k4_f_X5_variables : ∀ (k b : Nat) (L : LV) (σ : CS), K4 w σ → F4 w (f_X5_variables k b L σ) := by
  intro k
  induction k with
  | zero => intro b L σ _; exact F4_no
  | succ k ih =>
    intro b L σ hb
    match b with
    | 0 =>
      refine F4_eq (by rw [f_X5_variables]) ?_
      exact F4_ox (k4_f_X2_advance _ _ _ _ hb) (fun _ h234 => F4_ox (k4_f_X5_tellVariable _ _ _ _ h234) (fun _ h235 => ih _ _ _ h235))
    | 1 =>
      refine F4_eq (by rw [f_X5_variables]) ?_
      exact F4_ite (ih _ _ _ hb) (F4_ite (F4_ox (k4_f_X2_advance _ _ _ _ hb) (fun _ h236 => F4_ox (k4_f_X5_tellVariable _ _ _ _ h236) (fun _ h237 => ih _ _ _ h237))) (ih _ _ _ hb))
    | 2 =>
      refine F4_eq (by rw [f_X5_variables]) ?_
      exact F4_ox (k4_f_X5_expect _ _ _ _ hb) (fun _ h238 => F4_so h238)
    | b + 3 =>
      exact F4_eq (by rw [f_X5_variables]) F4_no
theorem k4_y_X5_beginsStatement : ∀ (k b : Nat) (L : LV) (σ : CS), K4 w σ → Y4 w (y_X5_beginsStatement k b L σ) := by
  intro k
  induction k with
  | zero => intro b L σ _; exact Y4_no
  | succ k ih =>
    intro b L σ hb
    match b with
    | 0 =>
      refine Y4_eq (by rw [y_X5_beginsStatement]) ?_
      exact Y4_ite (ih _ _ _ hb) (Y4_ite (ih _ _ _ hb) (Y4_ite (ih _ _ _ hb) (Y4_ite (ih _ _ _ hb) (Y4_ite (ih _ _ _ hb) (Y4_ite (ih _ _ _ hb) (Y4_ite (ih _ _ _ hb) (Y4_ite (ih _ _ _ hb) (Y4_ite (ih _ _ _ hb) (Y4_ite (ih _ _ _ hb) (Y4_ite (ih _ _ _ hb) (Y4_ite (ih _ _ _ hb) (Y4_ite (ih _ _ _ hb) (Y4_ite (ih _ _ _ hb) (Y4_ite (ih _ _ _ hb) (Y4_ite (ih _ _ _ hb) (Y4_ite (ih _ _ _ hb) (Y4_ite (ih _ _ _ hb) (Y4_ite (ih _ _ _ hb) (Y4_ite (ih _ _ _ hb) (Y4_ite (ih _ _ _ hb) (Y4_ite (ih _ _ _ hb) (Y4_ite (ih _ _ _ hb) (Y4_ite (ih _ _ _ hb) (Y4_ite (ih _ _ _ hb) (Y4_ite (ih _ _ _ hb) (Y4_ite (ih _ _ _ hb) (Y4_ite (ih _ _ _ hb) (Y4_ite (ih _ _ _ hb) (Y4_ite (ih _ _ _ hb) (Y4_ite (ih _ _ _ hb) (Y4_ite (ih _ _ _ hb) (Y4_ite (ih _ _ _ hb) (Y4_ite (ih _ _ _ hb) (Y4_ite (ih _ _ _ hb) (Y4_ite (ih _ _ _ hb) (Y4_ite (ih _ _ _ hb) (Y4_ite (ih _ _ _ hb) (Y4_ite (ih _ _ _ hb) (Y4_ite (ih _ _ _ hb) (Y4_ite (ih _ _ _ hb) (Y4_ite (ih _ _ _ hb) (Y4_ite (ih _ _ _ hb) (Y4_ite (ih _ _ _ hb) (Y4_ite (ih _ _ _ hb) (Y4_ite (ih _ _ _ hb) (Y4_ite (ih _ _ _ hb) (Y4_ite (ih _ _ _ hb) (Y4_ite (ih _ _ _ hb) (Y4_ite (ih _ _ _ hb) (Y4_ite (ih _ _ _ hb) (Y4_ite (ih _ _ _ hb) (Y4_ite (ih _ _ _ hb) (Y4_ite (ih _ _ _ hb) (Y4_ite (ih _ _ _ hb) (ih _ _ _ hb)))))))))))))))))))))))))))))))))))))))))))))))))))))))
    | 1 =>
      refine Y4_eq (by rw [y_X5_beginsStatement]) ?_
      exact Y4_so hb
    | 2 =>
      refine Y4_eq (by rw [y_X5_beginsStatement]) ?_
      exact Y4_so hb
    | b + 3 =>
      exact Y4_eq (by rw [y_X5_beginsStatement]) Y4_no
theorem k4_f_X5_checkStatement : ∀ (k b : Nat) (L : LV) (σ : CS), K4 w σ → F4 w (f_X5_checkStatement k b L σ) := by
  intro k
  induction k with
  | zero => intro b L σ _; exact F4_no
  | succ k ih =>
    intro b L σ hb
    match b with
    | 0 =>
      refine F4_eq (by rw [f_X5_checkStatement]) ?_
      exact F4_ite (ih _ _ _ hb) (F4_ite (ih _ _ _ hb) (F4_ite (ih _ _ _ hb) (F4_ite (ih _ _ _ hb) (ih _ _ _ hb))))
    | 1 =>
      refine F4_eq (by rw [f_X5_checkStatement]) ?_
      exact ih _ _ _ hb
    | 2 =>
      refine F4_eq (by rw [f_X5_checkStatement]) ?_
      exact ih _ _ _ hb
    | 3 =>
      refine F4_eq (by rw [f_X5_checkStatement]) ?_
      exact F4_ite (ih _ _ _ hb) (F4_ite (ih _ _ _ hb) (F4_ox (k4_f_X5_refuse _ _ _ _ hb) (fun _ h239 => ih _ _ _ h239)))
    | 4 =>
      refine F4_eq (by rw [f_X5_checkStatement]) ?_
      exact F4_oP (fun _ => F4_ite (ih _ _ _ hb) (F4_ox (k4_f_X5_refuse _ _ _ _ hb) (fun _ h240 => ih _ _ _ h240)))
    | 5 =>
      refine F4_eq (by rw [f_X5_checkStatement]) ?_
      exact F4_ite (ih _ _ _ hb) (ih _ _ _ hb)
    | 6 =>
      refine F4_eq (by rw [f_X5_checkStatement]) ?_
      exact ih _ _ _ hb
    | 7 =>
      refine F4_eq (by rw [f_X5_checkStatement]) ?_
      exact F4_ite (ih _ _ _ hb) (F4_ite (ih _ _ _ hb) (ih _ _ _ hb))
    | 8 =>
      refine F4_eq (by rw [f_X5_checkStatement]) ?_
      exact F4_ite (ih _ _ _ hb) (ih _ _ _ hb)
    | 9 =>
      refine F4_eq (by rw [f_X5_checkStatement]) ?_
      exact F4_ite (F4_ite (ih _ _ _ hb) (ih _ _ _ hb)) (ih _ _ _ hb)
    | 10 =>
      refine F4_eq (by rw [f_X5_checkStatement]) ?_
      exact F4_ox (k4_f_X5_refuse _ _ _ _ hb) (fun _ h241 => ih _ _ _ h241)
    | 11 =>
      refine F4_eq (by rw [f_X5_checkStatement]) ?_
      exact F4_so hb
    | b + 12 =>
      exact F4_eq (by rw [f_X5_checkStatement]) F4_no
theorem k4_t_X5_block {X : Nat → Nat → Nat → LV → CS → Option RS} (hX : ∀ e m b L (σ : CS), K4 w σ → F4 w (X e m b L σ)) (K d b : Nat) (L : LV) (σ : CS) (hb : K4 w σ) : F4 w (t_X5_block X K d b L σ) := by
  match b with
  | 0 => exact hX _ _ _ _ _ hb
  | 1 => exact F4_ite (hX _ _ _ _ _ hb) (F4_op (k4_y_X5_beginsStatement _ _ _ _ hb) (fun _ h242 => F4_ite (hX _ _ _ _ _ h242) (F4_ox (k4_f_X5_checkStatement _ _ _ _ h242) (fun _ h243 => F4_oP (fun _ => F4_oP (fun _ => F4_ox (k4_f_X7_emit__P _ _ _ _ (uI_K4 (fP_4 _ (by decide) (by decide)) h243)) (fun _ h244 => F4_of (fun _ => F4_ox (hX _ _ _ _ _ h244) (fun _ h245 => hX _ _ _ _ _ h245)))))))))
  | 2 => exact F4_so hb
  | b + 3 => exact F4_no
theorem k4_f_X5_iters (k b : Nat) (L : LV) (σ : CS) (hb : K4 w σ) : F4 w (f_X5_iters k b L σ) := k4_f_F2 k 400 5 b L σ hb
theorem k4_t_X5_forStatement {X : Nat → Nat → Nat → LV → CS → Option RS} (hX : ∀ e m b L (σ : CS), K4 w σ → F4 w (X e m b L σ)) (K d b : Nat) (L : LV) (σ : CS) (hb : K4 w σ) : F4 w (t_X5_forStatement X K d b L σ) := by
  match b with
  | 0 => exact F4_oP (fun _ => F4_oP (fun _ => F4_ite (F4_ox (k4_f_X5_opens _ _ _ _ hb) (fun _ h246 => F4_oP (fun _ => F4_ox (k4_f_X7_emit__P _ _ _ _ h246) (fun _ h247 => F4_ox (k4_f_X5_iters _ _ _ _ h247) (fun _ h248 => F4_oP (fun _ => F4_ite (F4_oP (fun _ => F4_ite (F4_ite (F4_ox (k4_f_X2_advance _ _ _ _ (uA_K4 h248)) (fun _ h249 => F4_ox (k4_f_X5_exp _ _ _ _ h249) (fun _ h250 => F4_oP (fun _ => F4_oP (fun _ => F4_ox (k4_f_X7_emit__P _ _ _ _ h250) (fun _ h251 => F4_op (k4_y_X7_aim__P _ _ _ _ h251) (fun _ h252 => hX _ _ _ _ _ h252))))))) (hX _ _ _ _ _ (uA_K4 h248))) (F4_no))) (F4_no))))))) (F4_no)))
  | 1 => exact F4_ox (k4_f_X5_expect _ _ _ _ hb) (fun _ h253 => F4_of (fun _ => F4_ox (hX _ _ _ _ _ h253) (fun _ h254 => F4_oP (fun _ => F4_oP (fun _ => F4_ite (hX _ _ _ _ _ (uA_K4 h254)) (F4_no))))))
  | 2 => exact F4_ite (hX _ _ _ _ _ hb) (F4_oP (fun _ => F4_ite (F4_ox (k4_f_X7_emit__P _ _ _ _ hb) (fun _ h255 => F4_oP (fun _ => F4_ite (F4_ox (k4_f_X7_word__P _ _ _ _ h255) (fun _ h256 => F4_oP (fun _ => F4_ite (F4_ox (k4_f_X7_word__P _ _ _ _ h256) (fun _ h257 => hX _ _ _ _ _ h257)) (F4_no)))) (F4_no)))) (F4_no)))
  | 3 => exact F4_oP (fun _ => F4_ox (k4_f_X7_emit__P _ _ _ _ hb) (fun _ h258 => F4_oP (fun _ => F4_ite (F4_oP (fun _ => hX _ _ _ _ _ (uI_K4 (fP_4 _ (by decide) (by decide)) (uA_K4 (uI_K4 (by decide) h258))))) (F4_no))))
  | 4 => exact F4_so hb
  | b + 5 => exact F4_no
theorem k4_t_X5_ifStatement {X : Nat → Nat → Nat → LV → CS → Option RS} (hX : ∀ e m b L (σ : CS), K4 w σ → F4 w (X e m b L σ)) (K d b : Nat) (L : LV) (σ : CS) (hb : K4 w σ) : F4 w (t_X5_ifStatement X K d b L σ) := by
  match b with
  | 0 => exact F4_ox (k4_f_X5_opens _ _ _ _ hb) (fun _ h259 => F4_ite (F4_ox (k4_f_X2_advance _ _ _ _ h259) (fun _ h260 => F4_oP (fun _ => F4_ox (k4_f_X7_emit__P _ _ _ _ h260) (fun _ h261 => hX _ _ _ _ _ h261)))) (hX _ _ _ _ _ h259))
  | 1 => exact F4_ox (k4_f_X5_exp _ _ _ _ hb) (fun _ h262 => hX _ _ _ _ _ h262)
  | 2 => exact F4_ox (k4_f_X5_expect _ _ _ _ hb) (fun _ h263 => F4_oP (fun _ => F4_ox (k4_f_X7_emit__P _ _ _ _ h263) (fun _ h264 => F4_of (fun _ => F4_ox (hX _ _ _ _ _ h264) (fun _ h265 => hX _ _ _ _ _ h265)))))
  | 3 => exact F4_ite (hX _ _ _ _ _ hb) (F4_ite (F4_oP (fun _ => F4_ox (k4_f_X7_emit__P _ _ _ _ hb) (fun _ h266 => F4_oP (fun _ => F4_oP (fun _ => F4_op (k4_y_X7_aim__P _ _ _ _ h266) (fun _ h267 => F4_ox (k4_f_X2_advance _ _ _ _ h267) (fun _ h268 => F4_ox (k4_f_X5_exp _ _ _ _ h268) (fun _ h269 => F4_ox (k4_f_X5_expect _ _ _ _ h269) (fun _ h270 => F4_oP (fun _ => F4_ox (k4_f_X7_emit__P _ _ _ _ h270) (fun _ h271 => F4_of (fun _ => F4_ox (hX _ _ _ _ _ h271) (fun _ h272 => hX _ _ _ _ _ h272))))))))))))) (hX _ _ _ _ _ hb))
  | 4 => exact F4_ite (F4_oP (fun _ => F4_ox (k4_f_X7_emit__P _ _ _ _ hb) (fun _ h273 => F4_oP (fun _ => F4_oP (fun _ => F4_op (k4_y_X7_aim__P _ _ _ _ h273) (fun _ h274 => F4_ox (k4_f_X2_advance _ _ _ _ h274) (fun _ h275 => F4_of (fun _ => F4_ox (hX _ _ _ _ _ h275) (fun _ h276 => hX _ _ _ _ _ h276))))))))) (hX _ _ _ _ _ hb)
  | 5 => exact F4_ox (k4_f_X5_closes _ _ _ _ hb) (fun _ h277 => F4_ite (hX _ _ _ _ _ h277) (F4_oP (fun _ => F4_oP (fun _ => F4_op (k4_y_X7_aim__P _ _ _ _ h277) (fun _ h278 => hX _ _ _ _ _ h278)))))
  | 6 => exact F4_op (k4_y_X5_aimAll _ _ _ _ hb) (fun _ h279 => F4_so h279)
  | b + 7 => exact F4_no
theorem k4_t_X5_loopBody {X : Nat → Nat → Nat → LV → CS → Option RS} (hX : ∀ e m b L (σ : CS), K4 w σ → F4 w (X e m b L σ)) (K d b : Nat) (L : LV) (σ : CS) (hb : K4 w σ) : F4 w (t_X5_loopBody X K d b L σ) := by
  match b with
  | 0 => exact F4_of (fun _ => F4_ox (hX _ _ _ _ _ (uI_K4 (by decide) (uI_K4 (by decide) hb))) (fun _ h280 => F4_ox (k4_f_X5_closes _ _ _ _ h280) (fun _ h281 => F4_oP (fun _ => F4_oP (fun _ => F4_ox (k4_f_X7_emit__P _ _ _ _ h281) (fun _ h282 => F4_op (k4_y_X7_aim__P _ _ _ _ h282) (fun _ h283 => F4_op (k4_y_X5_aimAll _ _ _ _ h283) (fun _ h284 => hX _ _ _ _ _ (uI_K4 (by decide) h284)))))))))
  | 1 => exact F4_so (uI_K4 (by decide) hb)
  | b + 2 => exact F4_no
theorem k4_y_X7_mode__P : ∀ (k b : Nat) (L : LV) (σ : CS), K4 w σ → Y4 w (y_X7_mode__P k b L σ) := by
  intro k
  induction k with
  | zero => intro b L σ _; exact Y4_no
  | succ k ih =>
    intro b L σ hb
    match b with
    | 0 =>
      refine Y4_eq (by rw [y_X7_mode__P]) ?_
      exact Y4_ite (Y4_so hb) (Y4_no)
    | b + 1 =>
      exact Y4_eq (by rw [y_X7_mode__P]) Y4_no
theorem k4_f_X7_words__P__z42 : ∀ (k b : Nat) (L : LV) (σ : CS), K4 w σ → F4 w (f_X7_words__P__z42 k b L σ) := by
  intro k
  induction k with
  | zero => intro b L σ _; exact F4_no
  | succ k ih =>
    intro b L σ hb
    match b with
    | 0 =>
      refine F4_eq (by rw [f_X7_words__P__z42]) ?_
      exact F4_ox (k4_f_X7_widen__P _ _ _ _ hb) (fun _ h285 => F4_ite (ih _ _ _ (uF_K4 h285)) (F4_no))
    | 1 =>
      refine F4_eq (by rw [f_X7_words__P__z42]) ?_
      exact F4_so (uI_K4 (fP_4 _ (by decide) (by decide)) hb)
    | b + 2 =>
      exact F4_eq (by rw [f_X7_words__P__z42]) F4_no
theorem k4_f_X7_words__P__A0 : ∀ (k b : Nat) (L : LV) (σ : CS), K4 w σ → F4 w (f_X7_words__P__A0 k b L σ) := by
  intro k
  induction k with
  | zero => intro b L σ _; exact F4_no
  | succ k ih =>
    intro b L σ hb
    match b with
    | 0 =>
      refine F4_eq (by rw [f_X7_words__P__A0]) ?_
      exact F4_ite (F4_ox (k4_f_X7_widen__P _ _ _ _ hb) (fun _ h286 => F4_ite (ih _ _ _ (uF_K4 h286)) (F4_no))) (F4_no)
    | 1 =>
      refine F4_eq (by rw [f_X7_words__P__A0]) ?_
      exact F4_so (uI_K4 (fP_4 _ (by decide) (by decide)) hb)
    | b + 2 =>
      exact F4_eq (by rw [f_X7_words__P__A0]) F4_no
theorem k4_f_X5_keep__A0 : ∀ (k b : Nat) (L : LV) (σ : CS), K4 w σ → F4 w (f_X5_keep__A0 k b L σ) := by
  intro k
  induction k with
  | zero => intro b L σ _; exact F4_no
  | succ k ih =>
    intro b L σ hb
    match b with
    | 0 =>
      refine F4_eq (by rw [f_X5_keep__A0]) ?_
      exact F4_ite (F4_ite (F4_ad (ih _ _ _ (uZ_K4 hb))) (ih _ _ _ hb)) (F4_no)
    | 1 =>
      refine F4_eq (by rw [f_X5_keep__A0]) ?_
      exact F4_ite (ih _ _ _ hb) (F4_so hb)
    | 2 =>
      refine F4_eq (by rw [f_X5_keep__A0]) ?_
      exact F4_ite (ih _ _ _ (uF_K4 hb)) (F4_no)
    | 3 =>
      refine F4_eq (by rw [f_X5_keep__A0]) ?_
      exact F4_so (uI_K4 (by decide) hb)
    | b + 4 =>
      exact F4_eq (by rw [f_X5_keep__A0]) F4_no
theorem k4_f_X5_keepTarget : ∀ (k b : Nat) (L : LV) (σ : CS), K4 w σ → F4 w (f_X5_keepTarget k b L σ) := by
  intro k
  induction k with
  | zero => intro b L σ _; exact F4_no
  | succ k ih =>
    intro b L σ hb
    match b with
    | 0 =>
      refine F4_eq (by rw [f_X5_keepTarget]) ?_
      exact F4_oP (fun _ => ih _ _ _ hb)
    | 1 =>
      refine F4_eq (by rw [f_X5_keepTarget]) ?_
      exact F4_ite (ih _ _ _ hb) (F4_oP (fun _ => F4_oP (fun _ => F4_ite (F4_ite (F4_ite (F4_ox (k4_f_X7_words__P__A0 _ _ _ _ hb) (fun _ h287 => F4_ite (F4_ite (ih _ _ _ h287) (ih _ _ _ h287)) (F4_no))) (F4_no)) (F4_no)) (F4_no))))
    | 2 =>
      refine F4_eq (by rw [f_X5_keepTarget]) ?_
      exact F4_oP (fun _ => F4_ox (k4_f_X7_emit__P _ _ _ _ hb) (fun _ h288 => F4_oP (fun _ => F4_oP (fun _ => F4_ite (F4_ite (ih _ _ _ h288) (ih _ _ _ h288)) (F4_no)))))
    | 3 =>
      refine F4_eq (by rw [f_X5_keepTarget]) ?_
      exact ih _ _ _ hb
    | 4 =>
      refine F4_eq (by rw [f_X5_keepTarget]) ?_
      exact ih _ _ _ hb
    | 5 =>
      refine F4_eq (by rw [f_X5_keepTarget]) ?_
      exact ih _ _ _ hb
    | 6 =>
      refine F4_eq (by rw [f_X5_keepTarget]) ?_
      exact F4_oP (fun _ => F4_ite (F4_ox (k4_f_X7_emit__P _ _ _ _ hb) (fun _ h289 => F4_oP (fun _ => F4_ox (k4_f_X7_word__P _ _ _ _ h289) (fun _ h290 => F4_oP (fun _ => F4_ox (k4_f_X7_word__P _ _ _ _ h290) (fun _ h291 => ih _ _ _ h291)))))) (F4_no))
    | 7 =>
      refine F4_eq (by rw [f_X5_keepTarget]) ?_
      exact F4_ite (ih _ _ _ hb) (F4_oP (fun _ => F4_ite (F4_ox (k4_f_X7_word__P _ _ _ _ hb) (fun _ h292 => ih _ _ _ h292)) (F4_no)))
    | 8 =>
      refine F4_eq (by rw [f_X5_keepTarget]) ?_
      exact F4_oP (fun _ => F4_ox (k4_f_X7_emit__P _ _ _ _ hb) (fun _ h293 => F4_oP (fun _ => F4_oP (fun _ => F4_ox (k4_f_X5_keep__A0 _ _ _ _ h293) (fun _ h294 => F4_oP (fun _ => F4_so (uI_K4 (fP_4 _ (by decide) (by decide)) h294)))))))
    | b + 9 =>
      exact F4_eq (by rw [f_X5_keepTarget]) F4_no
theorem k4_f_X5_call : ∀ (k b : Nat) (L : LV) (σ : CS), K4 w σ → F4 w (f_X5_call k b L σ) := by
  intro k
  induction k with
  | zero => intro b L σ _; exact F4_no
  | succ k ih =>
    intro b L σ hb
    match b with
    | 0 =>
      refine F4_eq (by rw [f_X5_call]) ?_
      exact F4_oP (fun _ => F4_ite (F4_oP (fun _ => F4_ox (k4_f_X7_emit__P _ _ _ _ hb) (fun _ h295 => F4_ox (k4_f_X5_opens _ _ _ _ h295) (fun _ h296 => F4_ite (ih _ _ _ h296) (ih _ _ _ h296))))) (F4_no))
    | 1 =>
      refine F4_eq (by rw [f_X5_call]) ?_
      exact ih _ _ _ hb
    | 2 =>
      refine F4_eq (by rw [f_X5_call]) ?_
      exact ih _ _ _ hb
    | 3 =>
      refine F4_eq (by rw [f_X5_call]) ?_
      exact F4_ite (ih _ _ _ hb) (F4_ite (ih _ _ _ hb) (F4_oP (fun _ => F4_ox (k4_f_X5_exp _ _ _ _ hb) (fun _ h297 => F4_ite (ih _ _ _ h297) (F4_oP (fun _ => F4_op (k4_y_X7_mode__P _ _ _ _ h297) (fun _ h298 => ih _ _ _ h298)))))))
    | 4 =>
      refine F4_eq (by rw [f_X5_call]) ?_
      exact F4_ox (k4_f_X5_want _ _ _ _ hb) (fun _ h299 => F4_ite (ih _ _ _ h299) (F4_ox (k4_f_X5_refuse _ _ _ _ h299) (fun _ h300 => ih _ _ _ h300)))
    | 5 =>
      refine F4_eq (by rw [f_X5_call]) ?_
      exact ih _ _ _ hb
    | 6 =>
      refine F4_eq (by rw [f_X5_call]) ?_
      exact F4_ite (ih _ _ _ hb) (F4_ite (F4_oP (fun _ => F4_ite (ih _ _ _ hb) (ih _ _ _ hb))) (ih _ _ _ hb))
    | 7 =>
      refine F4_eq (by rw [f_X5_call]) ?_
      exact F4_ox (k4_f_X5_closes _ _ _ _ hb) (fun _ h301 => F4_oP (fun _ => F4_ox (k4_f_X7_emit__P _ _ _ _ h301) (fun _ h302 => F4_oP (fun _ => F4_ox (k4_f_X7_words__P__z42 _ _ _ _ h302) (fun _ h303 => F4_oP (fun _ => F4_ox (k4_f_X7_words__P__z42 _ _ _ _ h303) (fun _ h304 => F4_so h304)))))))
    | 8 =>
      refine F4_eq (by rw [f_X5_call]) ?_
      exact F4_ite (F4_oP (fun _ => F4_ox (k4_f_X5_push _ _ _ _ (uI_K4 (fP_4 _ (by decide) (by decide)) hb)) (fun _ h305 => ih _ _ _ h305))) (ih _ _ _ hb)
    | 9 =>
      refine F4_eq (by rw [f_X5_call]) ?_
      exact F4_ox (k4_f_X5_refuse _ _ _ _ hb) (fun _ h306 => ih _ _ _ h306)
    | 10 =>
      refine F4_eq (by rw [f_X5_call]) ?_
      exact F4_ox (k4_f_X5_keepTarget _ _ _ _ hb) (fun _ h307 => ih _ _ _ h307)
    | 11 =>
      refine F4_eq (by rw [f_X5_call]) ?_
      exact F4_ite (ih _ _ _ hb) (ih _ _ _ hb)
    | 12 =>
      refine F4_eq (by rw [f_X5_call]) ?_
      exact ih _ _ _ hb
    | 13 =>
      refine F4_eq (by rw [f_X5_call]) ?_
      exact F4_ite (ih _ _ _ hb) (F4_ox (k4_f_X2_advance _ _ _ _ hb) (fun _ h308 => ih _ _ _ h308))
    | 14 =>
      refine F4_eq (by rw [f_X5_call]) ?_
      exact ih _ _ _ hb
    | b + 15 =>
      exact F4_eq (by rw [f_X5_call]) F4_no
theorem k4_f_X5_part (k b : Nat) (L : LV) (σ : CS) (hb : K4 w σ) : F4 w (f_X5_part k b L σ) := k4_f_F2 k 400 9 b L σ hb
theorem k4_f_X5_target : ∀ (k b : Nat) (L : LV) (σ : CS), K4 w σ → F4 w (f_X5_target k b L σ) := by
  intro k
  induction k with
  | zero => intro b L σ _; exact F4_no
  | succ k ih =>
    intro b L σ hb
    match b with
    | 0 =>
      refine F4_eq (by rw [f_X5_target]) ?_
      exact F4_ite (F4_ox (k4_f_X5_want _ _ _ _ hb) (fun _ h309 => F4_ox (k4_f_X5_takenName _ _ _ _ h309) (fun _ h310 => F4_ite (ih _ _ _ h310) (F4_oP (fun _ => F4_ite (F4_ite (ih _ _ _ h310) (ih _ _ _ h310)) (F4_no)))))) (ih _ _ _ hb)
    | 1 =>
      refine F4_eq (by rw [f_X5_target]) ?_
      exact F4_oP (fun _ => F4_ite (F4_ox (k4_f_X5_mark _ _ _ _ hb) (fun _ h311 => F4_oP (fun _ => F4_ite (F4_ox (k4_f_X5_mark _ _ _ _ h311) (fun _ h312 => F4_ox (k4_f_X5_mark _ _ _ _ h312) (fun _ h313 => F4_ox (k4_f_X5_mark _ _ _ _ h313) (fun _ h314 => ih _ _ _ h314)))) (F4_no)))) (F4_no))
    | 2 =>
      refine F4_eq (by rw [f_X5_target]) ?_
      exact F4_ox (k4_f_X5_refuse _ _ _ _ hb) (fun _ h315 => ih _ _ _ h315)
    | 3 =>
      refine F4_eq (by rw [f_X5_target]) ?_
      exact F4_ite (ih _ _ _ hb) (F4_ite (ih _ _ _ hb) (F4_ite (ih _ _ _ hb) (ih _ _ _ hb)))
    | 4 =>
      refine F4_eq (by rw [f_X5_target]) ?_
      exact F4_so hb
    | 5 =>
      refine F4_eq (by rw [f_X5_target]) ?_
      exact F4_ox (k4_f_X5_part _ _ _ _ hb) (fun _ h316 => F4_ox (k4_f_X5_mark _ _ _ _ h316) (fun _ h317 => F4_ite (F4_ite (ih _ _ _ h317) (ih _ _ _ h317)) (F4_no)))
    | 6 =>
      refine F4_eq (by rw [f_X5_target]) ?_
      exact ih _ _ _ hb
    | 7 =>
      refine F4_eq (by rw [f_X5_target]) ?_
      exact F4_ite (F4_ite (F4_ite (ih _ _ _ (uA_K4 (uA_K4 hb))) (F4_no)) (F4_no)) (F4_no)
    | b + 8 =>
      exact F4_eq (by rw [f_X5_target]) F4_no
theorem k4_f_X7_words__P__z41 : ∀ (k b : Nat) (L : LV) (σ : CS), K4 w σ → F4 w (f_X7_words__P__z41 k b L σ) := by
  intro k
  induction k with
  | zero => intro b L σ _; exact F4_no
  | succ k ih =>
    intro b L σ hb
    match b with
    | 0 =>
      refine F4_eq (by rw [f_X7_words__P__z41]) ?_
      exact F4_ox (k4_f_X7_widen__P _ _ _ _ hb) (fun _ h318 => F4_ite (ih _ _ _ (uF_K4 h318)) (F4_no))
    | 1 =>
      refine F4_eq (by rw [f_X7_words__P__z41]) ?_
      exact F4_so (uI_K4 (fP_4 _ (by decide) (by decide)) hb)
    | b + 2 =>
      exact F4_eq (by rw [f_X7_words__P__z41]) F4_no
theorem k4_f_X5_emitTarget : ∀ (k b : Nat) (L : LV) (σ : CS), K4 w σ → F4 w (f_X5_emitTarget k b L σ) := by
  intro k
  induction k with
  | zero => intro b L σ _; exact F4_no
  | succ k ih =>
    intro b L σ hb
    match b with
    | 0 =>
      refine F4_eq (by rw [f_X5_emitTarget]) ?_
      exact F4_ite (F4_ite (ih _ _ _ hb) (ih _ _ _ hb)) (F4_no)
    | 1 =>
      refine F4_eq (by rw [f_X5_emitTarget]) ?_
      exact ih _ _ _ hb
    | 2 =>
      refine F4_eq (by rw [f_X5_emitTarget]) ?_
      exact F4_oP (fun _ => F4_ite (F4_ox (k4_f_X7_emit__P _ _ _ _ hb) (fun _ h319 => F4_oP (fun _ => F4_ox (k4_f_X7_word__P _ _ _ _ h319) (fun _ h320 => F4_oP (fun _ => F4_ite (F4_ox (k4_f_X7_word__P _ _ _ _ h320) (fun _ h321 => F4_oP (fun _ => F4_ite (F4_ox (k4_f_X7_words__P__z41 _ _ _ _ h321) (fun _ h322 => F4_so h322)) (F4_no)))) (F4_no)))))) (F4_no))
    | b + 3 =>
      exact F4_eq (by rw [f_X5_emitTarget]) F4_no
theorem k4_f_X5_operation : ∀ (k b : Nat) (L : LV) (σ : CS), K4 w σ → F4 w (f_X5_operation k b L σ) := by
  intro k
  induction k with
  | zero => intro b L σ _; exact F4_no
  | succ k ih =>
    intro b L σ hb
    match b with
    | 0 =>
      refine F4_eq (by rw [f_X5_operation]) ?_
      exact F4_ox (k4_f_X2_advance _ _ _ _ hb) (fun _ h323 => F4_ox (k4_f_X5_expect _ _ _ _ h323) (fun _ h324 => F4_ox (k4_f_X5_exp _ _ _ _ h324) (fun _ h325 => F4_ite (F4_ox (k4_f_X5_emitTarget _ _ _ _ h325) (fun _ h326 => F4_oP (fun _ => F4_ox (k4_f_X7_emit__P _ _ _ _ h326) (fun _ h327 => F4_oP (fun _ => F4_ite (ih _ _ _ h327) (ih _ _ _ h327)))))) (F4_no))))
    | 1 =>
      refine F4_eq (by rw [f_X5_operation]) ?_
      exact F4_ite (ih _ _ _ hb) (ih _ _ _ hb)
    | 2 =>
      refine F4_eq (by rw [f_X5_operation]) ?_
      exact F4_ox (k4_f_X7_emit__P _ _ _ _ hb) (fun _ h328 => F4_ite (F4_ox (k4_f_X5_emitTarget _ _ _ _ h328) (fun _ h329 => F4_oP (fun _ => F4_ite (F4_ox (k4_f_X7_emit__P _ _ _ _ h329) (fun _ h330 => F4_so h330)) (F4_no)))) (F4_no))
    | 3 =>
      refine F4_eq (by rw [f_X5_operation]) ?_
      exact ih _ _ _ hb
    | b + 4 =>
      exact F4_eq (by rw [f_X5_operation]) F4_no
theorem k4_f_X5_taking : ∀ (k b : Nat) (L : LV) (σ : CS), K4 w σ → F4 w (f_X5_taking k b L σ) := by
  intro k
  induction k with
  | zero => intro b L σ _; exact F4_no
  | succ k ih =>
    intro b L σ hb
    match b with
    | 0 =>
      refine F4_eq (by rw [f_X5_taking]) ?_
      exact F4_ite (F4_ite (F4_ox (k4_f_X5_emitTarget _ _ _ _ hb) (fun _ h331 => F4_oP (fun _ => F4_ox (k4_f_X7_emit__P _ _ _ _ h331) (fun _ h332 => F4_oP (fun _ => F4_ox (k4_f_X7_word__P _ _ _ _ h332) (fun _ h333 => F4_ox (k4_f_X5_emitTarget _ _ _ _ h333) (fun _ h334 => F4_oP (fun _ => F4_oP (fun _ => F4_ite (F4_oP (fun _ => F4_ox (k4_f_X7_emit__P _ _ _ _ (uA_K4 h334)) (fun _ h335 => F4_ox (k4_f_X5_emitTarget _ _ _ _ h335) (fun _ h336 => F4_oP (fun _ => F4_ox (k4_f_X7_emit__P _ _ _ _ h336) (fun _ h337 => F4_so h337)))))) (F4_no)))))))))) (F4_no)) (F4_no)
    | b + 1 =>
      exact F4_eq (by rw [f_X5_taking]) F4_no
theorem k4_f_X5_postponeTarget : ∀ (k b : Nat) (L : LV) (σ : CS), K4 w σ → F4 w (f_X5_postponeTarget k b L σ) := by
  intro k
  induction k with
  | zero => intro b L σ _; exact F4_no
  | succ k ih =>
    intro b L σ hb
    match b with
    | 0 =>
      refine F4_eq (by rw [f_X5_postponeTarget]) ?_
      exact F4_oP (fun _ => F4_oP (fun _ => F4_ox (k4_f_X5_keep__A0 _ _ _ _ (uI_K4 (by decide) hb)) (fun _ h338 => F4_oP (fun _ => F4_ox (k4_f_X2_advance _ _ _ _ (uI_K4 (fP_4 _ (by decide) (by decide)) h338)) (fun _ h339 => F4_ite (ih _ _ _ h339) (F4_ox (k4_f_X5_refuse _ _ _ _ h339) (fun _ h340 => ih _ _ _ h340)))))))
    | 1 =>
      refine F4_eq (by rw [f_X5_postponeTarget]) ?_
      exact F4_so hb
    | b + 2 =>
      exact F4_eq (by rw [f_X5_postponeTarget]) F4_no
theorem k4_f_X5_assignResult : ∀ (k b : Nat) (L : LV) (σ : CS), K4 w σ → F4 w (f_X5_assignResult k b L σ) := by
  intro k
  induction k with
  | zero => intro b L σ _; exact F4_no
  | succ k ih =>
    intro b L σ hb
    match b with
    | 0 =>
      refine F4_eq (by rw [f_X5_assignResult]) ?_
      exact F4_ite (F4_oP (fun _ => F4_oP (fun _ => F4_ite (F4_ox (k4_f_X7_emit__P _ _ _ _ hb) (fun _ h341 => F4_ox (k4_f_X5_emitTarget _ _ _ _ h341) (fun _ h342 => F4_oP (fun _ => F4_oP (fun _ => F4_ite (F4_ox (k4_f_X7_emit__P _ _ _ _ h342) (fun _ h343 => F4_so h343)) (F4_no)))))) (F4_no)))) (F4_no)
    | b + 1 =>
      exact F4_eq (by rw [f_X5_assignResult]) F4_no
theorem k4_f_X5_assignment : ∀ (k b : Nat) (L : LV) (σ : CS), K4 w σ → F4 w (f_X5_assignment k b L σ) := by
  intro k
  induction k with
  | zero => intro b L σ _; exact F4_no
  | succ k ih =>
    intro b L σ hb
    match b with
    | 0 =>
      refine F4_eq (by rw [f_X5_assignment]) ?_
      exact F4_ite (F4_ite (F4_ite (F4_ox (k4_f_X2_advance _ _ _ _ hb) (fun _ h344 => F4_oP (fun _ => F4_ox (k4_f_X7_emit__P _ _ _ _ h344) (fun _ h345 => ih _ _ _ h345)))) (ih _ _ _ hb)) (F4_no)) (ih _ _ _ hb)
    | 1 =>
      refine F4_eq (by rw [f_X5_assignment]) ?_
      exact F4_ox (k4_f_X5_exp _ _ _ _ hb) (fun _ h346 => ih _ _ _ h346)
    | 2 =>
      refine F4_eq (by rw [f_X5_assignment]) ?_
      exact F4_ite (F4_ox (k4_f_X5_emitTarget _ _ _ _ hb) (fun _ h347 => F4_oP (fun _ => F4_ite (F4_ox (k4_f_X7_emit__P _ _ _ _ h347) (fun _ h348 => F4_so h348)) (F4_no)))) (F4_no)
    | b + 3 =>
      exact F4_eq (by rw [f_X5_assignment]) F4_no
theorem k4_f_X5_nameStatement : ∀ (k b : Nat) (L : LV) (σ : CS), K4 w σ → F4 w (f_X5_nameStatement k b L σ) := by
  intro k
  induction k with
  | zero => intro b L σ _; exact F4_no
  | succ k ih =>
    intro b L σ hb
    match b with
    | 0 =>
      refine F4_eq (by rw [f_X5_nameStatement]) ?_
      exact F4_ox (k4_f_X5_takenName _ _ _ _ hb) (fun _ h349 => F4_ite (ih _ _ _ h349) (ih _ _ _ h349))
    | 1 =>
      refine F4_eq (by rw [f_X5_nameStatement]) ?_
      exact F4_oP (fun _ => F4_ite (ih _ _ _ hb) (F4_no))
    | 2 =>
      refine F4_eq (by rw [f_X5_nameStatement]) ?_
      exact F4_ite (ih _ _ _ hb) (F4_ite (F4_ite (ih _ _ _ hb) (ih _ _ _ hb)) (ih _ _ _ hb))
    | 3 =>
      refine F4_eq (by rw [f_X5_nameStatement]) ?_
      exact F4_ox (k4_f_X5_refuse _ _ _ _ hb) (fun _ h350 => ih _ _ _ h350)
    | 4 =>
      refine F4_eq (by rw [f_X5_nameStatement]) ?_
      exact F4_ite (F4_oP (fun _ => F4_ite (F4_ox (k4_f_X5_call _ _ _ _ (uI_K4 (by decide) hb)) (fun _ h351 => F4_oP (fun _ => F4_oP (fun _ => F4_oP (fun _ => F4_ite (F4_ite (F4_ox (k4_f_X7_emit__P _ _ _ _ h351) (fun _ h352 => F4_so h352)) (F4_no)) (F4_no)))))) (F4_no))) (ih _ _ _ hb)
    | 5 =>
      refine F4_eq (by rw [f_X5_nameStatement]) ?_
      exact F4_oP (fun _ => F4_ox (k4_f_X5_target _ _ _ _ hb) (fun _ h353 => F4_ite (ih _ _ _ h353) (F4_ite (ih _ _ _ h353) (F4_ite (ih _ _ _ h353) (F4_ite (ih _ _ _ h353) (F4_ite (ih _ _ _ h353) (F4_ite (ih _ _ _ h353) (F4_ite (ih _ _ _ h353) (ih _ _ _ h353)))))))))
    | 6 =>
      refine F4_eq (by rw [f_X5_nameStatement]) ?_
      exact F4_ox (k4_f_X2_advance _ _ _ _ hb) (fun _ h354 => F4_ite (F4_oP (fun _ => F4_op (k4_y_X7_found__P _ _ _ _ h354) (fun _ h355 => ih _ _ _ h355))) (ih _ _ _ h354))
    | 7 =>
      refine F4_eq (by rw [f_X5_nameStatement]) ?_
      exact F4_ox (k4_f_X5_operation _ _ _ _ hb) (fun _ h356 => ih _ _ _ h356)
    | 8 =>
      refine F4_eq (by rw [f_X5_nameStatement]) ?_
      exact F4_ox (k4_f_X2_advance _ _ _ _ hb) (fun _ h357 => F4_ox (k4_f_X5_target _ _ _ _ h357) (fun _ h358 => F4_ox (k4_f_X5_taking _ _ _ _ h358) (fun _ h359 => ih _ _ _ h359)))
    | 9 =>
      refine F4_eq (by rw [f_X5_nameStatement]) ?_
      exact F4_ox (k4_f_X5_refuse _ _ _ _ hb) (fun _ h360 => ih _ _ _ h360)
    | 10 =>
      refine F4_eq (by rw [f_X5_nameStatement]) ?_
      exact ih _ _ _ hb
    | 11 =>
      refine F4_eq (by rw [f_X5_nameStatement]) ?_
      exact F4_ite (ih _ _ _ hb) (F4_oP (fun _ => F4_ite (F4_ite (F4_ox (k4_f_X5_postponeTarget _ _ _ _ hb) (fun _ h361 => F4_oP (fun _ => F4_ite (F4_ox (k4_f_X5_call _ _ _ _ h361) (fun _ h362 => F4_oP (fun _ => F4_ite (F4_ox (k4_f_X5_assignResult _ _ _ _ h362) (fun _ h363 => ih _ _ _ h363)) (F4_no)))) (F4_no)))) (ih _ _ _ hb)) (F4_no)))
    | 12 =>
      refine F4_eq (by rw [f_X5_nameStatement]) ?_
      exact F4_so (uI_K4 (by decide) hb)
    | 13 =>
      refine F4_eq (by rw [f_X5_nameStatement]) ?_
      exact F4_ox (k4_f_X5_assignment _ _ _ _ hb) (fun _ h364 => ih _ _ _ h364)
    | b + 14 =>
      exact F4_eq (by rw [f_X5_nameStatement]) F4_no
theorem k4_f_X5_markNoTarget : ∀ (k b : Nat) (L : LV) (σ : CS), K4 w σ → F4 w (f_X5_markNoTarget k b L σ) := by
  intro k
  induction k with
  | zero => intro b L σ _; exact F4_no
  | succ k ih =>
    intro b L σ hb
    match b with
    | 0 =>
      refine F4_eq (by rw [f_X5_markNoTarget]) ?_
      exact F4_ox (k4_f_X5_mark _ _ _ _ hb) (fun _ h365 => F4_ox (k4_f_X5_mark _ _ _ _ h365) (fun _ h366 => F4_ox (k4_f_X5_mark _ _ _ _ h366) (fun _ h367 => F4_ox (k4_f_X5_mark _ _ _ _ h367) (fun _ h368 => F4_so h368))))
    | b + 1 =>
      exact F4_eq (by rw [f_X5_markNoTarget]) F4_no
theorem k4_f_X5_writeHoles : ∀ (k b : Nat) (L : LV) (σ : CS), K4 w σ → F4 w (f_X5_writeHoles k b L σ) := by
  intro k
  induction k with
  | zero => intro b L σ _; exact F4_no
  | succ k ih =>
    intro b L σ hb
    match b with
    | 0 =>
      refine F4_eq (by rw [f_X5_writeHoles]) ?_
      exact F4_oP (fun _ => F4_ox (k4_f_X7_emit__P _ _ _ _ hb) (fun _ h369 => ih _ _ _ h369))
    | 1 =>
      refine F4_eq (by rw [f_X5_writeHoles]) ?_
      exact F4_ite (ih _ _ _ hb) (F4_ite (F4_ite (ih _ _ _ hb) (F4_oP (fun _ => F4_ox (k4_f_X7_emit__P _ _ _ _ hb) (fun _ h370 => F4_ox (k4_f_X5_emitTarget _ _ _ _ h370) (fun _ h371 => F4_oP (fun _ => F4_ox (k4_f_X7_emit__P _ _ _ _ h371) (fun _ h372 => ih _ _ _ h372))))))) (F4_no))
    | 2 =>
      refine F4_eq (by rw [f_X5_writeHoles]) ?_
      exact F4_oP (fun _ => F4_ox (k4_f_X7_emit__P _ _ _ _ hb) (fun _ h373 => F4_so h373))
    | 3 =>
      refine F4_eq (by rw [f_X5_writeHoles]) ?_
      exact F4_ite (F4_ite (ih _ _ _ hb) (F4_no)) (F4_no)
    | b + 4 =>
      exact F4_eq (by rw [f_X5_writeHoles]) F4_no
theorem k4_f_X5_holesStatement : ∀ (k b : Nat) (L : LV) (σ : CS), K4 w σ → F4 w (f_X5_holesStatement k b L σ) := by
  intro k
  induction k with
  | zero => intro b L σ _; exact F4_no
  | succ k ih =>
    intro b L σ hb
    match b with
    | 0 =>
      refine F4_eq (by rw [f_X5_holesStatement]) ?_
      exact F4_ox (k4_f_X5_opens _ _ _ _ hb) (fun _ h374 => ih _ _ _ h374)
    | 1 =>
      refine F4_eq (by rw [f_X5_holesStatement]) ?_
      exact F4_ite (ih _ _ _ hb) (F4_ite (ih _ _ _ hb) (F4_ite (F4_ox (k4_f_X2_advance _ _ _ _ hb) (fun _ h375 => F4_ox (k4_f_X5_markNoTarget _ _ _ _ h375) (fun _ h376 => ih _ _ _ h376))) (ih _ _ _ hb)))
    | 2 =>
      refine F4_eq (by rw [f_X5_holesStatement]) ?_
      exact F4_ox (k4_f_X5_closes _ _ _ _ hb) (fun _ h377 => F4_ox (k4_f_X5_expect _ _ _ _ h377) (fun _ h378 => F4_ox (k4_f_X5_exp _ _ _ _ h378) (fun _ h379 => F4_ox (k4_f_X5_writeHoles _ _ _ _ h379) (fun _ h380 => F4_so (uI_K4 (by decide) h380)))))
    | 3 =>
      refine F4_eq (by rw [f_X5_holesStatement]) ?_
      exact F4_ox (k4_f_X5_target _ _ _ _ hb) (fun _ h381 => F4_ite (ih _ _ _ h381) (F4_no))
    | 4 =>
      refine F4_eq (by rw [f_X5_holesStatement]) ?_
      exact F4_ite (ih _ _ _ hb) (ih _ _ _ hb)
    | 5 =>
      refine F4_eq (by rw [f_X5_holesStatement]) ?_
      exact ih _ _ _ hb
    | 6 =>
      refine F4_eq (by rw [f_X5_holesStatement]) ?_
      exact F4_ite (ih _ _ _ hb) (F4_ox (k4_f_X2_advance _ _ _ _ hb) (fun _ h382 => ih _ _ _ h382))
    | 7 =>
      refine F4_eq (by rw [f_X5_holesStatement]) ?_
      exact ih _ _ _ hb
    | b + 8 =>
      exact F4_eq (by rw [f_X5_holesStatement]) F4_no
theorem k4_f_X5_exps (k b : Nat) (L : LV) (σ : CS) (hb : K4 w σ) : F4 w (f_X5_exps k b L σ) := k4_f_F2 k 400 2 b L σ hb
theorem k4_f_X5_plainStatement : ∀ (k b : Nat) (L : LV) (σ : CS), K4 w σ → F4 w (f_X5_plainStatement k b L σ) := by
  intro k
  induction k with
  | zero => intro b L σ _; exact F4_no
  | succ k ih =>
    intro b L σ hb
    match b with
    | 0 =>
      refine F4_eq (by rw [f_X5_plainStatement]) ?_
      exact F4_ox (k4_f_X2_advance _ _ _ _ hb) (fun _ h383 => F4_ite (ih _ _ _ h383) (F4_ite (ih _ _ _ h383) (F4_ite (ih _ _ _ h383) (F4_ite (ih _ _ _ h383) (F4_ite (ih _ _ _ h383) (F4_ite (ih _ _ _ h383) (F4_ite (ih _ _ _ h383) (ih _ _ _ h383))))))))
    | 1 =>
      refine F4_eq (by rw [f_X5_plainStatement]) ?_
      exact F4_oP (fun _ => F4_ox (k4_f_X7_emit__P _ _ _ _ hb) (fun _ h384 => ih _ _ _ (uI_K4 (by decide) h384)))
    | 2 =>
      refine F4_eq (by rw [f_X5_plainStatement]) ?_
      exact F4_oP (fun _ => F4_oP (fun _ => F4_ox (k4_f_X7_emit__P _ _ _ _ hb) (fun _ h385 => F4_op (k4_y_X7_aim__P _ _ _ _ h385) (fun _ h386 => ih _ _ _ h386))))
    | 3 =>
      refine F4_eq (by rw [f_X5_plainStatement]) ?_
      exact F4_ite (F4_ox (k4_f_X5_push _ _ _ _ hb) (fun _ h387 => ih _ _ _ h387)) (ih _ _ _ hb)
    | 4 =>
      refine F4_eq (by rw [f_X5_plainStatement]) ?_
      exact F4_oP (fun _ => F4_ox (k4_f_X7_emit__P _ _ _ _ hb) (fun _ h388 => ih _ _ _ h388))
    | 5 =>
      refine F4_eq (by rw [f_X5_plainStatement]) ?_
      exact F4_ox (k4_f_X5_exp _ _ _ _ hb) (fun _ h389 => F4_oP (fun _ => F4_ox (k4_f_X7_emit__P _ _ _ _ h389) (fun _ h390 => ih _ _ _ h390)))
    | 6 =>
      refine F4_eq (by rw [f_X5_plainStatement]) ?_
      exact F4_oP (fun _ => F4_ox (k4_f_X7_emit__P _ _ _ _ hb) (fun _ h391 => ih _ _ _ h391))
    | 7 =>
      refine F4_eq (by rw [f_X5_plainStatement]) ?_
      exact F4_oP (fun _ => F4_ox (k4_f_X7_emit__P _ _ _ _ hb) (fun _ h392 => ih _ _ _ h392))
    | 8 =>
      refine F4_eq (by rw [f_X5_plainStatement]) ?_
      exact F4_so hb
    | 9 =>
      refine F4_eq (by rw [f_X5_plainStatement]) ?_
      exact F4_ox (k4_f_X5_exp _ _ _ _ hb) (fun _ h393 => ih _ _ _ h393)
    | 10 =>
      refine F4_eq (by rw [f_X5_plainStatement]) ?_
      exact F4_oP (fun _ => F4_ox (k4_f_X7_emit__P _ _ _ _ hb) (fun _ h394 => ih _ _ _ h394))
    | b + 11 =>
      exact F4_eq (by rw [f_X5_plainStatement]) F4_no
theorem k4_t_X5_statement {X : Nat → Nat → Nat → LV → CS → Option RS} (hX : ∀ e m b L (σ : CS), K4 w σ → F4 w (X e m b L σ)) (K d b : Nat) (L : LV) (σ : CS) (hb : K4 w σ) : F4 w (t_X5_statement X K d b L σ) := by
  match b with
  | 0 => exact F4_ite (hX _ _ _ _ _ hb) (F4_ite (hX _ _ _ _ _ hb) (F4_ite (hX _ _ _ _ _ hb) (F4_ite (hX _ _ _ _ _ hb) (F4_ite (hX _ _ _ _ _ hb) (F4_ite (hX _ _ _ _ _ hb) (hX _ _ _ _ _ hb))))))
  | 1 => exact F4_ox (k4_f_X5_nameStatement _ _ _ _ hb) (fun _ h395 => hX _ _ _ _ _ h395)
  | 2 => exact F4_ox (k4_f_X5_holesStatement _ _ _ _ hb) (fun _ h396 => hX _ _ _ _ _ h396)
  | 3 => exact F4_of (fun _ => F4_ox (hX _ _ _ _ _ hb) (fun _ h397 => hX _ _ _ _ _ h397))
  | 4 => exact F4_of (fun _ => F4_ox (hX _ _ _ _ _ hb) (fun _ h398 => hX _ _ _ _ _ h398))
  | 5 => exact F4_of (fun _ => F4_ox (hX _ _ _ _ _ hb) (fun _ h399 => hX _ _ _ _ _ h399))
  | 6 => exact F4_ox (k4_f_X2_advance _ _ _ _ hb) (fun _ h400 => F4_ox (k4_f_X5_want _ _ _ _ h400) (fun _ h401 => F4_ox (k4_f_X5_opens _ _ _ _ h401) (fun _ h402 => F4_oP (fun _ => F4_ox (k4_f_X5_exps _ _ _ _ h402) (fun _ h403 => F4_ox (k4_f_X7_emit__P _ _ _ _ h403) (fun _ h404 => F4_ox (k4_f_X5_closes _ _ _ _ h404) (fun _ h405 => hX _ _ _ _ _ h405)))))))
  | 7 => exact F4_ox (k4_f_X5_plainStatement _ _ _ _ hb) (fun _ h406 => hX _ _ _ _ _ h406)
  | 8 => exact F4_ox (k4_f_X5_expect _ _ _ _ hb) (fun _ h407 => F4_so h407)
  | b + 9 => exact F4_no
theorem k4_t_X5_whileStatement {X : Nat → Nat → Nat → LV → CS → Option RS} (hX : ∀ e m b L (σ : CS), K4 w σ → F4 w (X e m b L σ)) (K d b : Nat) (L : LV) (σ : CS) (hb : K4 w σ) : F4 w (t_X5_whileStatement X K d b L σ) := by
  match b with
  | 0 => exact F4_ox (k4_f_X5_opens _ _ _ _ hb) (fun _ h408 => F4_ox (k4_f_X5_exp _ _ _ _ h408) (fun _ h409 => F4_ox (k4_f_X5_expect _ _ _ _ h409) (fun _ h410 => F4_oP (fun _ => F4_ox (k4_f_X7_emit__P _ _ _ _ h410) (fun _ h411 => F4_of (fun _ => F4_ox (hX _ _ _ _ _ h411) (fun _ h412 => F4_oP (fun _ => F4_oP (fun _ => F4_op (k4_y_X7_aim__P _ _ _ _ h412) (fun _ h413 => F4_so h413))))))))))
  | b + 1 => exact F4_no
theorem k4_f_F3 : ∀ (k d m b : Nat) (L : LV) (σ : CS), K4 w σ → F4 w (f_F3 k d m b L σ) := by
  intro k
  induction k with
  | zero => intro d m b L σ _; exact F4_no
  | succ k ih =>
    intro d m b L σ hb
    match m with
    | 0 => exact k4_t_X5_block ih k d b L σ hb
    | 1 => exact k4_t_X5_forStatement ih k d b L σ hb
    | 2 => exact k4_t_X5_ifStatement ih k d b L σ hb
    | 3 => exact k4_t_X5_loopBody ih k d b L σ hb
    | 4 => exact k4_t_X5_statement ih k d b L σ hb
    | 5 => exact k4_t_X5_whileStatement ih k d b L σ hb
    | m + 6 => exact F4_no
theorem k4_f_X5_block (k b : Nat) (L : LV) (σ : CS) (hb : K4 w σ) : F4 w (f_X5_block k b L σ) := k4_f_F3 k 120 0 b L σ hb
/-- behind its head a proc is not counted again -/
theorem k4_pr1 : ∀ (k b : Nat) (L : LV) (σ : CS), 1 ≤ b → K4 w σ → F4 w (f_X5_procedure k b L σ) := by
  intro k
  induction k with
  | zero => intro b L σ _ _; exact F4_no
  | succ k ih =>
    intro b L σ b1 hb
    match b, b1 with
    | 0, b1 => exact absurd b1 (by decide)
    | 1, _ =>
      refine F4_eq (by rw [f_X5_procedure]) ?_
      exact F4_ox (k4_f_X5_closes _ _ _ _ hb) (fun _ h1 => F4_ox (k4_f_X5_expect _ _ _ _ h1) (fun _ h2 => ih _ _ _ (by decide) h2))
    | 2, _ =>
      refine F4_eq (by rw [f_X5_procedure]) ?_
      exact F4_ite (ih _ _ _ (by decide) hb) (F4_ite (F4_ox (k4_f_X2_advance _ _ _ _ hb) (fun _ h3 => F4_ox (k4_f_X5_modeAndParameter _ _ _ _ h3) (fun _ h4 => ih _ _ _ (by decide) h4))) (ih _ _ _ (by decide) hb))
    | 3, _ =>
      refine F4_eq (by rw [f_X5_procedure]) ?_
      exact F4_ite (ih _ _ _ (by decide) hb) (F4_ite (F4_ox (k4_f_X5_variables _ _ _ _ hb) (fun _ h5 => ih _ _ _ (by decide) h5)) (ih _ _ _ (by decide) hb))
    | 4, _ =>
      refine F4_eq (by rw [f_X5_procedure]) ?_
      exact F4_ox (k4_f_X5_block _ _ _ _ hb) (fun _ h6 => F4_ox (k4_f_X5_expect _ _ _ _ h6) (fun _ h7 => F4_ox (k4_f_X5_push _ _ _ _ h7) (fun _ h8 => F4_oP (fun _ => F4_ox (k4_f_X7_emit__P _ _ _ _ h8) (fun _ h9 => F4_ox (k4_f_X5_expect _ _ _ _ h9) (fun _ h10 => F4_op (k4_y_X5_closeUnit _ _ _ _ h10) (fun _ h11 => F4_so h11)))))))
    | b + 5, _ =>
      exact F4_eq (by rw [f_X5_procedure]) F4_no
/-- a proc that was read is one more -/
theorem k4_procedure {b : Bool} {L : LV} {σ : CS} (hb : sPp σ = some b) : ∀ (k : Nat) (r : RS), f_X5_procedure k 0 L σ = some r → r.1.1 = 0 → r.2.1.1 (fP b 4) = σ.1 (fP b 4) + 1
  | 0, r, h, _ => by cases h
  | k + 1, r, h, h0 => by
    rw [f_X5_procedure] at h
    have t := k4_f_X5_tellUnit k 0 (lI lZ 1 2) σ (w := k4w σ) rfl
    cases e : f_X5_tellUnit k 0 (lI lZ 1 2) σ with
    | none => rw [e] at h; cases h
    | some r1 =>
      rw [e] at h
      have t1 : k4w r1.2.1 = k4w σ := t r1 e
      have p1 : sPp r1.2.1 = some b := (congrArg (fun y : K4t => y.2.2) t1).trans hb
      have f1 : r1.2.1.1 (fP b 4) = σ.1 (fP b 4) := by
        cases b
        · exact congrArg (fun y : K4t => y.2.1) t1
        · exact congrArg (fun y : K4t => y.1) t1
      have hh : (if r1.1.1 = 0 then adR r1.2.2 (oP (sPp r1.2.1) (fun b2 => if (((uI r1.2.1 (fP b2 4) ((((r1.2.1.1 (fP b2 4))) + 1))).1 3702)) = 11 then (f_X5_procedure k 1 (lI L 1 r1.1.2) (uI r1.2.1 (fP b2 4) ((((r1.2.1.1 (fP b2 4))) + 1)))) else (ox (f_X5_modeAndParameter k 0 (lI lZ 1 r1.1.2) (uI r1.2.1 (fP b2 4) ((((r1.2.1.1 (fP b2 4))) + 1)))) (fun r4 => f_X5_procedure k 2 (lI (lI L 1 r1.1.2) 2 0) r4.2.1)))) else some r1) = some r := h
      by_cases z : r1.1.1 = 0
      · rw [if_pos z, p1] at hh
        have h2 : adR r1.2.2 (if (uI r1.2.1 (fP b 4) (r1.2.1.1 (fP b 4) + 1)).1 3702 = 11 then f_X5_procedure k 1 (lI L 1 r1.1.2) (uI r1.2.1 (fP b 4) (r1.2.1.1 (fP b 4) + 1)) else ox (f_X5_modeAndParameter k 0 (lI lZ 1 r1.1.2) (uI r1.2.1 (fP b 4) (r1.2.1.1 (fP b 4) + 1))) (fun r4 => f_X5_procedure k 2 (lI (lI L 1 r1.1.2) 2 0) r4.2.1)) = some r := hh
        have g : F4 (k4w (uI r1.2.1 (fP b 4) (r1.2.1.1 (fP b 4) + 1))) (adR r1.2.2 (if (uI r1.2.1 (fP b 4) (r1.2.1.1 (fP b 4) + 1)).1 3702 = 11 then f_X5_procedure k 1 (lI L 1 r1.1.2) (uI r1.2.1 (fP b 4) (r1.2.1.1 (fP b 4) + 1)) else ox (f_X5_modeAndParameter k 0 (lI lZ 1 r1.1.2) (uI r1.2.1 (fP b 4) (r1.2.1.1 (fP b 4) + 1))) (fun r4 => f_X5_procedure k 2 (lI (lI L 1 r1.1.2) 2 0) r4.2.1))) :=
          F4_ad (F4_ite (k4_pr1 _ _ _ _ (by decide) rfl) (F4_ox (k4_f_X5_modeAndParameter _ _ _ _ rfl) (fun _ h4 => k4_pr1 _ _ _ _ (by decide) h4)))
        have y : k4w r.2.1 = k4w (uI r1.2.1 (fP b 4) (r1.2.1.1 (fP b 4) + 1)) := g r h2
        have u : (uI r1.2.1 (fP b 4) (r1.2.1.1 (fP b 4) + 1)).1 (fP b 4) = σ.1 (fP b 4) + 1 := by rw [uI_s, f1]
        rw [← u]
        cases b
        · exact congrArg (fun y : K4t => y.2.1) y
        · exact congrArg (fun y : K4t => y.1) y
      · rw [if_neg z] at hh
        cases hh
        exact absurd h0 z
theorem k4_4 {b : Bool} {σ τ : CS} (h : k4w τ = k4w σ) : τ.1 (fP b 4) = σ.1 (fP b 4) := by
  cases b
  · exact congrArg (fun y : K4t => y.2.1) h
  · exact congrArg (fun y : K4t => y.1) h
end K4D
