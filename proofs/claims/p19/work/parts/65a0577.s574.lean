/-! What the class's runtime never writes (made by k7.py). -/
abbrev K7t := Int32 × Int32 × Int32 × Int32 × Int32 × Bool × Int32 × Int32
/-- the fault's number; statements, procs of both programs; which is current; variables of both -/
def k7w (σ : CS) : K7t := (σ.1 7512, σ.1 5003, σ.1 5004, σ.1 6803, σ.1 6804, sCur σ, σ.2.2.1 (pR16 true) 0, σ.2.2.1 (pR16 false) 0)
def K7 (w : K7t) (σ : CS) : Prop := k7w σ = w
theorem uI_K7 {w : K7t} {σ : CS} {j : Nat} {x : Int32} (hj : ¬ j = 7512 ∧ ¬ j = 5003 ∧ ¬ j = 5004 ∧ ¬ j = 6803 ∧ ¬ j = 6804) (h : K7 w σ) : K7 w (uI σ j x) := by
  obtain ⟨a, b, c, d, e⟩ := hj
  unfold K7 k7w at h ⊢
  rw [uI_o (fun z => a z.symm), uI_o (fun z => b z.symm), uI_o (fun z => c z.symm), uI_o (fun z => d z.symm), uI_o (fun z => e z.symm)]
  exact h
theorem fP_7 (b : Bool) {k : Nat} (h : k ≤ 20) (h3 : ¬ k = 3) (h4 : ¬ k = 4) : ¬ fP b k = 7512 ∧ ¬ fP b k = 5003 ∧ ¬ fP b k = 5004 ∧ ¬ fP b k = 6803 ∧ ¬ fP b k = 6804 := by
  have e : fP true k = 5000 + k ∧ fP false k = 6800 + k := ⟨rfl, rfl⟩
  cases b
  · rw [e.2]; omega
  · rw [e.1]; omega
abbrev n7 (k : Nat) : Prop := ¬ k = pR16 true ∧ ¬ k = pR16 false
theorem uF_K7 {w : K7t} {σ : CS} {k : Nat} {f : Nat → Int32} (hk : n7 k) (h : K7 w σ) : K7 w (uF σ k f) := by
  have e : ∀ a, ¬ a = k → (uF σ k f).2.2.1 a = σ.2.2.1 a := fun a ha => updG_other ha
  unfold K7 k7w at h ⊢
  rw [e _ (fun z => hk.1 z.symm), e _ (fun z => hk.2 z.symm)]
  exact h
theorem uA_K7 {w : K7t} {σ : CS} {k i : Nat} {x : Int32} (hk : n7 k) (h : K7 w σ) : K7 w (uA σ k i x) := uF_K7 hk h
theorem uZ_K7 {w : K7t} {σ : CS} {k n : Nat} (hk : n7 k) (h : K7 w σ) : K7 w (uZ σ k n) := by
  have e : ∀ a, ¬ a = k → (uZ σ k n).2.2.1 a = σ.2.2.1 a := fun a ha => updG_other ha
  unfold K7 k7w at h ⊢
  rw [e _ (fun z => hk.1 z.symm), e _ (fun z => hk.2 z.symm)]
  exact h
theorem n7_0 (b : Bool) : n7 (pR0 b) := by cases b <;> (show n7 _; decide)
theorem n7_5 (b : Bool) : n7 (pR5 b) := by cases b <;> (show n7 _; decide)
theorem n7_6 (b : Bool) : n7 (pR6 b) := by cases b <;> (show n7 _; decide)
theorem n7_7 (b : Bool) : n7 (pR7 b) := by cases b <;> (show n7 _; decide)
theorem n7_8 (b : Bool) : n7 (pR8 b) := by cases b <;> (show n7 _; decide)
theorem n7_9 (b : Bool) : n7 (pR9 b) := by cases b <;> (show n7 _; decide)
theorem n7_10 (b : Bool) : n7 (pR10 b) := by cases b <;> (show n7 _; decide)
theorem n7_13 (b : Bool) : n7 (pR13 b) := by cases b <;> (show n7 _; decide)
theorem n7_14 (b : Bool) : n7 (pR14 b) := by cases b <;> (show n7 _; decide)
theorem n7_15 (b : Bool) : n7 (pR15 b) := by cases b <;> (show n7 _; decide)
theorem n7_17 (b : Bool) : n7 (pR17 b) := by cases b <;> (show n7 _; decide)
theorem n7_18 (b : Bool) : n7 (pR18 b) := by cases b <;> (show n7 _; decide)
theorem uL_K7 {w : K7t} {σ : CS} {j : Nat} {x : Int64} (h : K7 w σ) : K7 w (uL σ j x) := h
theorem uJ_K7 {w : K7t} {σ : CS} {k i : Nat} {x : Int64} (h : K7 w σ) : K7 w (uJ σ k i x) := h
theorem uKd_K7 {w : K7t} {σ : CS} {b x : Bool} (h : K7 w σ) : K7 w (uKd σ b x) := h
theorem uPi_K7 {w : K7t} {σ : CS} {i r : Nat} (h : K7 w σ) : K7 w (uPi σ i r) := h
theorem uPp_K7 {w : K7t} {σ : CS} {x : Option Bool} (h : K7 w σ) : K7 w (uPp σ x) := h
theorem uPr_K7 {w : K7t} {σ : CS} {x : Option Bool} (h : K7 w σ) : K7 w (uPr σ x) := h
theorem uC_K7 {w : K7t} {σ : CS} {b : Bool} {n : Nat} (h : K7 w σ) : K7 w (uC σ b n) := by
  have hk := n7_0 (tS σ b)
  have e : ∀ a, ¬ a = pR0 (tS σ b) → (uC σ b n).2.2.1 a = σ.2.2.1 a := fun a ha => updG_other ha
  unfold K7 k7w at h ⊢
  rw [e _ (fun z => hk.1 z.symm), e _ (fun z => hk.2 z.symm)]
  exact h

section K7C
variable {w : K7t}
/-- whatever comes back: its bytes are bytes -/
def Ey (w : K7t) (x : Option (Int32 × CS)) : Prop := ∀ r, x = some r → K7 w r.2
def Ef (w : K7t) (x : Option RS) : Prop := ∀ r, x = some r → K7 w r.2.1
theorem Ey_no : Ey w none := fun _ h => by cases h
theorem Ef_no : Ef w none := fun _ h => by cases h
theorem Ey_so {a : Int32} {σ : CS} (h : K7 w σ) : Ey w (some (a, σ)) := fun _ e => by cases e; exact h
theorem Ef_so {a : Nat × Int32} {σ : CS} {q : Nat × Nat} (h : K7 w σ) : Ef w (some (a, σ, q)) := fun _ e => by cases e; exact h
theorem Ey_eq {a a' : Option (Int32 × CS)} (h1 : a = a') (h : Ey w a') : Ey w a := by rw [h1]; exact h
theorem Ef_eq {a a' : Option RS} (h1 : a = a') (h : Ef w a') : Ef w a := by rw [h1]; exact h
theorem Ey_ite {c : Prop} {_ : Decidable c} {a b : Option (Int32 × CS)} (h1 : Ey w a) (h2 : Ey w b) : Ey w (if c then a else b) := by
  by_cases h : c
  · rw [if_pos h]; exact h1
  · rw [if_neg h]; exact h2
theorem Ef_ite {c : Prop} {_ : Decidable c} {a b : Option RS} (h1 : Ef w a) (h2 : Ef w b) : Ef w (if c then a else b) := by
  by_cases h : c
  · rw [if_pos h]; exact h1
  · rw [if_neg h]; exact h2
theorem Ey_oc {x : Option (Int32 × CS)} {f : Int32 × CS → Option (Int32 × CS)} (h1 : Ey w x) (h2 : ∀ r, K7 w r.2 → Ey w (f r)) : Ey w (oc x f) := by
  intro r hr
  cases x with
  | none => cases hr
  | some s => exact h2 s (h1 s rfl) r hr
theorem Ef_op {x : Option (Int32 × CS)} {f : Int32 × CS → Option RS} (h1 : Ey w x) (h2 : ∀ r, K7 w r.2 → Ef w (f r)) : Ef w (Jvm.Pilot.CSetHouseLaw_law_r6264_2ea8b6.op x f) := by
  intro r hr
  cases x with
  | none => cases hr
  | some s => exact h2 s (h1 s rfl) r hr
theorem Ef_ad {q : Nat × Nat} {y : Option RS} (h : Ef w y) : Ef w (adR q y) := by
  intro r hr
  cases y with
  | none => cases hr
  | some s =>
    have e : some (s.1, s.2.1, (q.1 + s.2.2.1, q.2 + s.2.2.2)) = some r := hr
    cases e
    exact h s rfl
theorem Ef_ox {x : Option RS} {f : RS → Option RS} (h1 : Ef w x) (h2 : ∀ r, K7 w r.2.1 → Ef w (f r)) : Ef w (ox x f) := by
  cases x with
  | none => exact Ef_no
  | some s =>
    have z := h1 s rfl
    show Ef w (if s.1.1 = 0 then adR s.2.2 (f s) else some s)
    refine Ef_ite (Ef_ad (h2 s z)) (fun r e => ?_)
    cases e
    exact z
theorem Ef_oh {x : Option RS} {f g : RS → Option RS} (h1 : Ef w x) (h2 : ∀ r, K7 w r.2.1 → Ef w (f r)) (h3 : ∀ r, K7 w r.2.1 → Ef w (g r)) : Ef w (oh x f g) := by
  cases x with
  | none => exact Ef_no
  | some s =>
    have z := h1 s rfl
    exact Ef_ite (Ef_ad (h2 s z)) (Ef_ite (Ef_ad (h3 s z)) Ef_no)
theorem Ey_oe {d : Nat} {f : Nat → Option (Int32 × CS)} (h : ∀ e, Ey w (f e)) : Ey w (oe d f) := by
  cases d with
  | zero => exact Ey_no
  | succ e => exact h e
theorem Ef_of {d : Nat} {f : Nat → Option RS} (h : ∀ e, Ef w (f e)) : Ef w (Jvm.Pilot.CSetHouseLaw_law_r6264_2ea8b6.of d f) := by
  cases d with
  | zero => exact Ef_no
  | succ e => exact h e
theorem Ey_oB {x : Option Bool} {f : Bool → Option (Int32 × CS)} (h : ∀ e, Ey w (f e)) : Ey w (oB x f) := by
  cases x with
  | none => exact Ey_no
  | some e => exact h e
theorem Ef_oP {x : Option Bool} {f : Bool → Option RS} (h : ∀ e, Ef w (f e)) : Ef w (oP x f) := by
  cases x with
  | none => exact Ef_no
  | some e => exact h e
theorem Ef_oN {x : Option Bool} {u v : Option RS} (h1 : Ef w u) (h2 : Ef w v) : Ef w (oN x u v) := by
  cases x with
  | none => exact h1
  | some e => exact h2
theorem Ey_ck {p : Prop} {_ : Decidable p} {a : Option (Int32 × CS)} (h : p → Ey w a) : Ey w (if p then a else none) := by
  by_cases q : p
  · rw [if_pos q]; exact h q
  · rw [if_neg q]; exact Ey_no
theorem Ef_ck {p : Prop} {_ : Decidable p} {a : Option RS} (h : p → Ef w a) : Ef w (if p then a else none) := by
  by_cases q : p
  · rw [if_pos q]; exact h q
  · rw [if_neg q]; exact Ef_no
end K7C
section K7D
variable {w : K7t}
theorem k7_y_X1_kind : ∀ (k b : Nat) (L : LV) (σ : CS), K7 w σ → Ey w (y_X1_kind k b L σ) := by
  intro k
  induction k with
  | zero => intro b L σ _; exact Ey_no
  | succ k ih =>
    intro b L σ hb
    match b with
    | 0 =>
      refine Ey_eq (by rw [y_X1_kind]) ?_
      exact Ey_ite (ih _ _ _ hb) (ih _ _ _ hb)
    | 1 =>
      refine Ey_eq (by rw [y_X1_kind]) ?_
      exact Ey_ite (ih _ _ _ hb) (Ey_no)
    | 2 =>
      refine Ey_eq (by rw [y_X1_kind]) ?_
      exact Ey_so hb
    | b + 3 =>
      exact Ey_eq (by rw [y_X1_kind]) Ey_no
theorem k7_y_X10_small : ∀ (k b : Nat) (L : LV) (σ : CS), K7 w σ → Ey w (y_X10_small k b L σ) := by
  intro k
  induction k with
  | zero => intro b L σ _; exact Ey_no
  | succ k ih =>
    intro b L σ hb
    match b with
    | 0 =>
      refine Ey_eq (by rw [y_X10_small]) ?_
      exact Ey_so hb
    | b + 1 =>
      exact Ey_eq (by rw [y_X10_small]) Ey_no
theorem k7_y_X1_makeWhole__a7 : ∀ (k b : Nat) (L : LV) (σ : CS), K7 w σ → Ey w (y_X1_makeWhole__a7 k b L σ) := by
  intro k
  induction k with
  | zero => intro b L σ _; exact Ey_no
  | succ k ih =>
    intro b L σ hb
    match b with
    | 0 =>
      refine Ey_eq (by rw [y_X1_makeWhole__a7]) ?_
      exact Ey_ite (ih _ _ _ hb) (Ey_so hb)
    | 1 =>
      refine Ey_eq (by rw [y_X1_makeWhole__a7]) ?_
      exact Ey_ite (ih _ _ _ hb) (Ey_so hb)
    | 2 =>
      refine Ey_eq (by rw [y_X1_makeWhole__a7]) ?_
      exact Ey_ite (ih _ _ _ (uI_K7 (by decide) hb)) (ih _ _ _ (uI_K7 (by decide) hb))
    | 3 =>
      refine Ey_eq (by rw [y_X1_makeWhole__a7]) ?_
      exact ih _ _ _ hb
    | 4 =>
      refine Ey_eq (by rw [y_X1_makeWhole__a7]) ?_
      exact Ey_ite (Ey_ite (Ey_so (uF_K7 (by decide) (uA_K7 (by decide) hb))) (Ey_no)) (Ey_no)
    | b + 5 =>
      exact Ey_eq (by rw [y_X1_makeWhole__a7]) Ey_no
theorem k7_y_X10_of : ∀ (k b : Nat) (L : LV) (σ : CS), K7 w σ → Ey w (y_X10_of k b L σ) := by
  intro k
  induction k with
  | zero => intro b L σ _; exact Ey_no
  | succ k ih =>
    intro b L σ hb
    match b with
    | 0 =>
      refine Ey_eq (by rw [y_X10_of]) ?_
      exact Ey_ite (ih _ _ _ hb) (Ey_ite (ih _ _ _ hb) (Ey_oc (k7_y_X10_small _ _ _ _ hb) (fun _ h1 => Ey_so h1)))
    | 1 =>
      refine Ey_eq (by rw [y_X10_of]) ?_
      exact Ey_ite (ih _ _ _ hb) (ih _ _ _ hb)
    | 2 =>
      refine Ey_eq (by rw [y_X10_of]) ?_
      exact ih _ _ _ hb
    | 3 =>
      refine Ey_eq (by rw [y_X10_of]) ?_
      exact Ey_ite (Ey_ite (Ey_ite (Ey_ite (ih _ _ _ (uA_K7 (by decide) (uA_K7 (by decide) hb))) (ih _ _ _ (uA_K7 (by decide) (uA_K7 (by decide) hb)))) (Ey_no)) (Ey_no)) (Ey_no)
    | 4 =>
      refine Ey_eq (by rw [y_X10_of]) ?_
      exact ih _ _ _ hb
    | 5 =>
      refine Ey_eq (by rw [y_X10_of]) ?_
      exact Ey_ite (ih _ _ _ hb) (ih _ _ _ hb)
    | 6 =>
      refine Ey_eq (by rw [y_X10_of]) ?_
      exact ih _ _ _ hb
    | 7 =>
      refine Ey_eq (by rw [y_X10_of]) ?_
      exact Ey_oc (k7_y_X1_makeWhole__a7 _ _ _ _ hb) (fun _ h2 => Ey_so h2)
    | b + 8 =>
      exact Ey_eq (by rw [y_X10_of]) Ey_no
theorem k7_y_X10_isBelow : ∀ (k b : Nat) (L : LV) (σ : CS), K7 w σ → Ey w (y_X10_isBelow k b L σ) := by
  intro k
  induction k with
  | zero => intro b L σ _; exact Ey_no
  | succ k ih =>
    intro b L σ hb
    match b with
    | 0 =>
      refine Ey_eq (by rw [y_X10_isBelow]) ?_
      exact Ey_ite (ih _ _ _ hb) (Ey_ite (ih _ _ _ hb) (ih _ _ _ hb))
    | 1 =>
      refine Ey_eq (by rw [y_X10_isBelow]) ?_
      exact Ey_ite (Ey_ite (ih _ _ _ hb) (ih _ _ _ hb)) (Ey_no)
    | 2 =>
      refine Ey_eq (by rw [y_X10_isBelow]) ?_
      exact ih _ _ _ hb
    | 3 =>
      refine Ey_eq (by rw [y_X10_isBelow]) ?_
      exact Ey_ite (Ey_so hb) (Ey_no)
    | 4 =>
      refine Ey_eq (by rw [y_X10_isBelow]) ?_
      exact ih _ _ _ hb
    | b + 5 =>
      exact Ey_eq (by rw [y_X10_isBelow]) Ey_no
theorem k7_y_X10_addLimbs : ∀ (k b : Nat) (L : LV) (σ : CS), K7 w σ → Ey w (y_X10_addLimbs k b L σ) := by
  intro k
  induction k with
  | zero => intro b L σ _; exact Ey_no
  | succ k ih =>
    intro b L σ hb
    match b with
    | 0 =>
      refine Ey_eq (by rw [y_X10_addLimbs]) ?_
      exact ih _ _ _ hb
    | 1 =>
      refine Ey_eq (by rw [y_X10_addLimbs]) ?_
      exact Ey_ite (ih _ _ _ hb) (Ey_ite (ih _ _ _ hb) (Ey_ite (ih _ _ _ hb) (Ey_no)))
    | 2 =>
      refine Ey_eq (by rw [y_X10_addLimbs]) ?_
      exact Ey_ite (Ey_so (uA_K7 (by decide) hb)) (Ey_no)
    | 3 =>
      refine Ey_eq (by rw [y_X10_addLimbs]) ?_
      exact ih _ _ _ hb
    | 4 =>
      refine Ey_eq (by rw [y_X10_addLimbs]) ?_
      exact Ey_ite (ih _ _ _ hb) (Ey_ite (ih _ _ _ hb) (Ey_no))
    | 5 =>
      refine Ey_eq (by rw [y_X10_addLimbs]) ?_
      exact ih _ _ _ hb
    | 6 =>
      refine Ey_eq (by rw [y_X10_addLimbs]) ?_
      exact Ey_ite (ih _ _ _ (uA_K7 (by decide) hb)) (Ey_no)
    | b + 7 =>
      exact Ey_eq (by rw [y_X10_addLimbs]) Ey_no
theorem k7_y_X10_made : ∀ (k b : Nat) (L : LV) (σ : CS), K7 w σ → Ey w (y_X10_made k b L σ) := by
  intro k
  induction k with
  | zero => intro b L σ _; exact Ey_no
  | succ k ih =>
    intro b L σ hb
    match b with
    | 0 =>
      refine Ey_eq (by rw [y_X10_made]) ?_
      exact ih _ _ _ hb
    | 1 =>
      refine Ey_eq (by rw [y_X10_made]) ?_
      exact Ey_ite (ih _ _ _ hb) (Ey_ite (Ey_ite (ih _ _ _ hb) (ih _ _ _ hb)) (Ey_no))
    | 2 =>
      refine Ey_eq (by rw [y_X10_made]) ?_
      exact Ey_ite (Ey_ite (ih _ _ _ hb) (Ey_ite (ih _ _ _ hb) (Ey_ite (ih _ _ _ hb) (Ey_ite (ih _ _ _ hb) (Ey_ite (ih _ _ _ hb) (ih _ _ _ hb)))))) (Ey_no)
    | 3 =>
      refine Ey_eq (by rw [y_X10_made]) ?_
      exact Ey_ite (ih _ _ _ hb) (ih _ _ _ hb)
    | 4 =>
      refine Ey_eq (by rw [y_X10_made]) ?_
      exact Ey_ite (ih _ _ _ hb) (ih _ _ _ hb)
    | 5 =>
      refine Ey_eq (by rw [y_X10_made]) ?_
      exact Ey_oc (k7_y_X1_makeWhole__a7 _ _ _ _ hb) (fun _ h3 => ih _ _ _ h3)
    | 6 =>
      refine Ey_eq (by rw [y_X10_made]) ?_
      exact Ey_so hb
    | 7 =>
      refine Ey_eq (by rw [y_X10_made]) ?_
      exact Ey_ite (ih _ _ _ hb) (ih _ _ _ hb)
    | 8 =>
      refine Ey_eq (by rw [y_X10_made]) ?_
      exact Ey_so hb
    | 9 =>
      refine Ey_eq (by rw [y_X10_made]) ?_
      exact ih _ _ _ hb
    | 10 =>
      refine Ey_eq (by rw [y_X10_made]) ?_
      exact Ey_oc (k7_y_X10_small _ _ _ _ hb) (fun _ h4 => ih _ _ _ h4)
    | b + 11 =>
      exact Ey_eq (by rw [y_X10_made]) Ey_no
theorem k7_y_J6_compare_7cf53 : ∀ (k b : Nat) (L : LV) (σ : CS), K7 w σ → Ey w (y_J6_compare_7cf53 k b L σ) := by
  intro k
  induction k with
  | zero => intro b L σ _; exact Ey_no
  | succ k ih =>
    intro b L σ hb
    match b with
    | 0 =>
      refine Ey_eq (by rw [y_J6_compare_7cf53]) ?_
      exact Ey_ite (ih _ _ _ hb) (ih _ _ _ hb)
    | 1 =>
      refine Ey_eq (by rw [y_J6_compare_7cf53]) ?_
      exact Ey_ite (ih _ _ _ hb) (ih _ _ _ hb)
    | 2 =>
      refine Ey_eq (by rw [y_J6_compare_7cf53]) ?_
      exact Ey_so hb
    | 3 =>
      refine Ey_eq (by rw [y_J6_compare_7cf53]) ?_
      exact ih _ _ _ hb
    | b + 4 =>
      exact Ey_eq (by rw [y_J6_compare_7cf53]) Ey_no
theorem k7_y_X10_compareLimbs : ∀ (k b : Nat) (L : LV) (σ : CS), K7 w σ → Ey w (y_X10_compareLimbs k b L σ) := by
  intro k
  induction k with
  | zero => intro b L σ _; exact Ey_no
  | succ k ih =>
    intro b L σ hb
    match b with
    | 0 =>
      refine Ey_eq (by rw [y_X10_compareLimbs]) ?_
      exact Ey_oc (k7_y_J6_compare_7cf53 _ _ _ _ hb) (fun _ h5 => ih _ _ _ h5)
    | 1 =>
      refine Ey_eq (by rw [y_X10_compareLimbs]) ?_
      exact Ey_ite (ih _ _ _ hb) (Ey_ite (Ey_ite (Ey_ite (Ey_oc (k7_y_J6_compare_7cf53 _ _ _ _ hb) (fun _ h6 => ih _ _ _ h6)) (Ey_no)) (Ey_no)) (ih _ _ _ hb))
    | 2 =>
      refine Ey_eq (by rw [y_X10_compareLimbs]) ?_
      exact Ey_so hb
    | b + 3 =>
      exact Ey_eq (by rw [y_X10_compareLimbs]) Ey_no
theorem k7_y_X10_load__a5 : ∀ (k b : Nat) (L : LV) (σ : CS), K7 w σ → Ey w (y_X10_load__a5 k b L σ) := by
  intro k
  induction k with
  | zero => intro b L σ _; exact Ey_no
  | succ k ih =>
    intro b L σ hb
    match b with
    | 0 =>
      refine Ey_eq (by rw [y_X10_load__a5]) ?_
      exact Ey_ite (ih _ _ _ hb) (Ey_ite (ih _ _ _ hb) (ih _ _ _ hb))
    | 1 =>
      refine Ey_eq (by rw [y_X10_load__a5]) ?_
      exact Ey_ite (Ey_ite (Ey_so (uF_K7 (by decide) hb)) (Ey_no)) (Ey_no)
    | 2 =>
      refine Ey_eq (by rw [y_X10_load__a5]) ?_
      exact ih _ _ _ hb
    | 3 =>
      refine Ey_eq (by rw [y_X10_load__a5]) ?_
      exact Ey_ite (Ey_ite (ih _ _ _ (uA_K7 (by decide) hb)) (ih _ _ _ (uA_K7 (by decide) hb))) (Ey_no)
    | 4 =>
      refine Ey_eq (by rw [y_X10_load__a5]) ?_
      exact ih _ _ _ hb
    | 5 =>
      refine Ey_eq (by rw [y_X10_load__a5]) ?_
      exact Ey_so hb
    | b + 6 =>
      exact Ey_eq (by rw [y_X10_load__a5]) Ey_no
theorem k7_y_X10_load__a6 : ∀ (k b : Nat) (L : LV) (σ : CS), K7 w σ → Ey w (y_X10_load__a6 k b L σ) := by
  intro k
  induction k with
  | zero => intro b L σ _; exact Ey_no
  | succ k ih =>
    intro b L σ hb
    match b with
    | 0 =>
      refine Ey_eq (by rw [y_X10_load__a6]) ?_
      exact Ey_ite (ih _ _ _ hb) (Ey_ite (ih _ _ _ hb) (ih _ _ _ hb))
    | 1 =>
      refine Ey_eq (by rw [y_X10_load__a6]) ?_
      exact Ey_ite (Ey_ite (Ey_so (uF_K7 (by decide) hb)) (Ey_no)) (Ey_no)
    | 2 =>
      refine Ey_eq (by rw [y_X10_load__a6]) ?_
      exact ih _ _ _ hb
    | 3 =>
      refine Ey_eq (by rw [y_X10_load__a6]) ?_
      exact Ey_ite (Ey_ite (ih _ _ _ (uA_K7 (by decide) hb)) (ih _ _ _ (uA_K7 (by decide) hb))) (Ey_no)
    | 4 =>
      refine Ey_eq (by rw [y_X10_load__a6]) ?_
      exact ih _ _ _ hb
    | 5 =>
      refine Ey_eq (by rw [y_X10_load__a6]) ?_
      exact Ey_so hb
    | b + 6 =>
      exact Ey_eq (by rw [y_X10_load__a6]) Ey_no
theorem k7_y_X10_takeLimbs__a5__a6 : ∀ (k b : Nat) (L : LV) (σ : CS), K7 w σ → Ey w (y_X10_takeLimbs__a5__a6 k b L σ) := by
  intro k
  induction k with
  | zero => intro b L σ _; exact Ey_no
  | succ k ih =>
    intro b L σ hb
    match b with
    | 0 =>
      refine Ey_eq (by rw [y_X10_takeLimbs__a5__a6]) ?_
      exact ih _ _ _ hb
    | 1 =>
      refine Ey_eq (by rw [y_X10_takeLimbs__a5__a6]) ?_
      exact Ey_ite (ih _ _ _ hb) (Ey_ite (Ey_ite (ih _ _ _ hb) (Ey_ite (ih _ _ _ hb) (Ey_no))) (Ey_no))
    | 2 =>
      refine Ey_eq (by rw [y_X10_takeLimbs__a5__a6]) ?_
      exact Ey_so hb
    | 3 =>
      refine Ey_eq (by rw [y_X10_takeLimbs__a5__a6]) ?_
      exact ih _ _ _ hb
    | 4 =>
      refine Ey_eq (by rw [y_X10_takeLimbs__a5__a6]) ?_
      exact Ey_ite (ih _ _ _ (uA_K7 (by decide) hb)) (Ey_no)
    | b + 5 =>
      exact Ey_eq (by rw [y_X10_takeLimbs__a5__a6]) Ey_no
theorem k7_y_X10_takeLimbs__a6__a5 : ∀ (k b : Nat) (L : LV) (σ : CS), K7 w σ → Ey w (y_X10_takeLimbs__a6__a5 k b L σ) := by
  intro k
  induction k with
  | zero => intro b L σ _; exact Ey_no
  | succ k ih =>
    intro b L σ hb
    match b with
    | 0 =>
      refine Ey_eq (by rw [y_X10_takeLimbs__a6__a5]) ?_
      exact ih _ _ _ hb
    | 1 =>
      refine Ey_eq (by rw [y_X10_takeLimbs__a6__a5]) ?_
      exact Ey_ite (ih _ _ _ hb) (Ey_ite (Ey_ite (ih _ _ _ hb) (Ey_ite (ih _ _ _ hb) (Ey_no))) (Ey_no))
    | 2 =>
      refine Ey_eq (by rw [y_X10_takeLimbs__a6__a5]) ?_
      exact Ey_so hb
    | 3 =>
      refine Ey_eq (by rw [y_X10_takeLimbs__a6__a5]) ?_
      exact ih _ _ _ hb
    | 4 =>
      refine Ey_eq (by rw [y_X10_takeLimbs__a6__a5]) ?_
      exact Ey_ite (ih _ _ _ (uA_K7 (by decide) hb)) (Ey_no)
    | b + 5 =>
      exact Ey_eq (by rw [y_X10_takeLimbs__a6__a5]) Ey_no
theorem k7_y_X10_added : ∀ (k b : Nat) (L : LV) (σ : CS), K7 w σ → Ey w (y_X10_added k b L σ) := by
  intro k
  induction k with
  | zero => intro b L σ _; exact Ey_no
  | succ k ih =>
    intro b L σ hb
    match b with
    | 0 =>
      refine Ey_eq (by rw [y_X10_added]) ?_
      exact Ey_ite (ih _ _ _ hb) (Ey_ite (ih _ _ _ hb) (Ey_ite (ih _ _ _ hb) (ih _ _ _ hb)))
    | 1 =>
      refine Ey_eq (by rw [y_X10_added]) ?_
      exact Ey_oc (k7_y_X10_load__a5 _ _ _ _ hb) (fun _ h7 => Ey_oc (k7_y_X10_load__a6 _ _ _ _ h7) (fun _ h8 => Ey_oc (k7_y_X10_isBelow _ _ _ _ h8) (fun _ h9 => Ey_oc (k7_y_X10_isBelow _ _ _ _ h9) (fun _ h10 => Ey_ite (ih _ _ _ h10) (ih _ _ _ h10)))))
    | 2 =>
      refine Ey_eq (by rw [y_X10_added]) ?_
      exact ih _ _ _ hb
    | 3 =>
      refine Ey_eq (by rw [y_X10_added]) ?_
      exact Ey_oc (k7_y_X10_of _ _ _ _ hb) (fun _ h11 => Ey_so h11)
    | 4 =>
      refine Ey_eq (by rw [y_X10_added]) ?_
      exact ih _ _ _ hb
    | 5 =>
      refine Ey_eq (by rw [y_X10_added]) ?_
      exact Ey_ite (Ey_oc (k7_y_X10_addLimbs _ _ _ _ hb) (fun _ h12 => Ey_oc (k7_y_X10_made _ _ _ _ h12) (fun _ h13 => Ey_so h13))) (ih _ _ _ hb)
    | 6 =>
      refine Ey_eq (by rw [y_X10_added]) ?_
      exact Ey_oc (k7_y_X10_compareLimbs _ _ _ _ hb) (fun _ h14 => Ey_ite (Ey_so h14) (ih _ _ _ h14))
    | 7 =>
      refine Ey_eq (by rw [y_X10_added]) ?_
      exact Ey_ite (ih _ _ _ hb) (Ey_oc (k7_y_X10_takeLimbs__a5__a6 _ _ _ _ hb) (fun _ h15 => Ey_oc (k7_y_X10_made _ _ _ _ h15) (fun _ h16 => Ey_so h16)))
    | 8 =>
      refine Ey_eq (by rw [y_X10_added]) ?_
      exact Ey_oc (k7_y_X10_takeLimbs__a6__a5 _ _ _ _ hb) (fun _ h17 => Ey_oc (k7_y_X10_made _ _ _ _ h17) (fun _ h18 => Ey_so h18))
    | b + 9 =>
      exact Ey_eq (by rw [y_X10_added]) Ey_no
theorem k7_y_X1_length : ∀ (k b : Nat) (L : LV) (σ : CS), K7 w σ → Ey w (y_X1_length k b L σ) := by
  intro k
  induction k with
  | zero => intro b L σ _; exact Ey_no
  | succ k ih =>
    intro b L σ hb
    match b with
    | 0 =>
      refine Ey_eq (by rw [y_X1_length]) ?_
      exact Ey_ite (ih _ _ _ hb) (Ey_ite (ih _ _ _ hb) (ih _ _ _ hb))
    | 1 =>
      refine Ey_eq (by rw [y_X1_length]) ?_
      exact Ey_ite (Ey_so hb) (Ey_no)
    | 2 =>
      refine Ey_eq (by rw [y_X1_length]) ?_
      exact ih _ _ _ hb
    | 3 =>
      refine Ey_eq (by rw [y_X1_length]) ?_
      exact Ey_so hb
    | b + 4 =>
      exact Ey_eq (by rw [y_X1_length]) Ey_no
theorem k7_y_X1_header : ∀ (k b : Nat) (L : LV) (σ : CS), K7 w σ → Ey w (y_X1_header k b L σ) := by
  intro k
  induction k with
  | zero => intro b L σ _; exact Ey_no
  | succ k ih =>
    intro b L σ hb
    match b with
    | 0 =>
      refine Ey_eq (by rw [y_X1_header]) ?_
      exact Ey_so hb
    | b + 1 =>
      exact Ey_eq (by rw [y_X1_header]) Ey_no
theorem k7_y_X1_copyBytes__a15 : ∀ (k b : Nat) (L : LV) (σ : CS), K7 w σ → Ey w (y_X1_copyBytes__a15 k b L σ) := by
  intro k
  induction k with
  | zero => intro b L σ _; exact Ey_no
  | succ k ih =>
    intro b L σ hb
    match b with
    | 0 =>
      refine Ey_eq (by rw [y_X1_copyBytes__a15]) ?_
      exact ih _ _ _ hb
    | 1 =>
      refine Ey_eq (by rw [y_X1_copyBytes__a15]) ?_
      exact Ey_ite (ih _ _ _ hb) (Ey_ite (ih _ _ _ hb) (Ey_ite (ih _ _ _ hb) (ih _ _ _ hb)))
    | 2 =>
      refine Ey_eq (by rw [y_X1_copyBytes__a15]) ?_
      exact Ey_so hb
    | 3 =>
      refine Ey_eq (by rw [y_X1_copyBytes__a15]) ?_
      exact Ey_ite (ih _ _ _ hb) (Ey_no)
    | 4 =>
      refine Ey_eq (by rw [y_X1_copyBytes__a15]) ?_
      exact Ey_ite (ih _ _ _ (uA_K7 (by decide) hb)) (Ey_no)
    | b + 5 =>
      exact Ey_eq (by rw [y_X1_copyBytes__a15]) Ey_no
theorem k7_y_X1_makeString__a15 : ∀ (k b : Nat) (L : LV) (σ : CS), K7 w σ → Ey w (y_X1_makeString__a15 k b L σ) := by
  intro k
  induction k with
  | zero => intro b L σ _; exact Ey_no
  | succ k ih =>
    intro b L σ hb
    match b with
    | 0 =>
      refine Ey_eq (by rw [y_X1_makeString__a15]) ?_
      exact Ey_ite (ih _ _ _ hb) (Ey_ite (ih _ _ _ hb) (ih _ _ _ hb))
    | 1 =>
      refine Ey_eq (by rw [y_X1_makeString__a15]) ?_
      exact Ey_ite (ih _ _ _ hb) (Ey_so hb)
    | 2 =>
      refine Ey_eq (by rw [y_X1_makeString__a15]) ?_
      exact Ey_ite (ih _ _ _ hb) (Ey_no)
    | 3 =>
      refine Ey_eq (by rw [y_X1_makeString__a15]) ?_
      exact Ey_so hb
    | 4 =>
      refine Ey_eq (by rw [y_X1_makeString__a15]) ?_
      exact Ey_ite (ih _ _ _ hb) (Ey_so hb)
    | 5 =>
      refine Ey_eq (by rw [y_X1_makeString__a15]) ?_
      exact Ey_oc (k7_y_X1_header _ _ _ _ (uI_K7 (by decide) hb)) (fun _ h19 => Ey_ite (ih _ _ _ (uA_K7 (by decide) h19)) (Ey_no))
    | 6 =>
      refine Ey_eq (by rw [y_X1_makeString__a15]) ?_
      exact ih _ _ _ hb
    | 7 =>
      refine Ey_eq (by rw [y_X1_makeString__a15]) ?_
      exact Ey_ite (ih _ _ _ hb) (Ey_ite (Ey_ite (ih _ _ _ hb) (Ey_ite (ih _ _ _ hb) (ih _ _ _ hb))) (Ey_no))
    | 8 =>
      refine Ey_eq (by rw [y_X1_makeString__a15]) ?_
      exact Ey_so hb
    | 9 =>
      refine Ey_eq (by rw [y_X1_makeString__a15]) ?_
      exact Ey_ite (ih _ _ _ (uA_K7 (by decide) hb)) (Ey_no)
    | 10 =>
      refine Ey_eq (by rw [y_X1_makeString__a15]) ?_
      exact ih _ _ _ hb
    | b + 11 =>
      exact Ey_eq (by rw [y_X1_makeString__a15]) Ey_no
theorem k7_y_X0_joined : ∀ (k b : Nat) (L : LV) (σ : CS), K7 w σ → Ey w (y_X0_joined k b L σ) := by
  intro k
  induction k with
  | zero => intro b L σ _; exact Ey_no
  | succ k ih =>
    intro b L σ hb
    match b with
    | 0 =>
      refine Ey_eq (by rw [y_X0_joined]) ?_
      exact Ey_oc (k7_y_X1_length _ _ _ _ hb) (fun _ h20 => Ey_oc (k7_y_X1_copyBytes__a15 _ _ _ _ h20) (fun _ h21 => Ey_oc (k7_y_X1_length _ _ _ _ h21) (fun _ h22 => Ey_oc (k7_y_X1_copyBytes__a15 _ _ _ _ h22) (fun _ h23 => Ey_oc (k7_y_X1_makeString__a15 _ _ _ _ h23) (fun _ h24 => Ey_so h24)))))
    | b + 1 =>
      exact Ey_eq (by rw [y_X0_joined]) Ey_no
theorem k7_y_X0_load : ∀ (k b : Nat) (L : LV) (σ : CS), K7 w σ → Ey w (y_X0_load k b L σ) := by
  intro k
  induction k with
  | zero => intro b L σ _; exact Ey_no
  | succ k ih =>
    intro b L σ hb
    match b with
    | 0 =>
      refine Ey_eq (by rw [y_X0_load]) ?_
      exact Ey_ite (ih _ _ _ hb) (Ey_ite (ih _ _ _ hb) (ih _ _ _ hb))
    | 1 =>
      refine Ey_eq (by rw [y_X0_load]) ?_
      exact Ey_so hb
    | 2 =>
      refine Ey_eq (by rw [y_X0_load]) ?_
      exact Ey_ite (Ey_so (uF_K7 (by decide) hb)) (Ey_no)
    | b + 3 =>
      exact Ey_eq (by rw [y_X0_load]) Ey_no
theorem k7_y_X1_member : ∀ (k b : Nat) (L : LV) (σ : CS), K7 w σ → Ey w (y_X1_member k b L σ) := by
  intro k
  induction k with
  | zero => intro b L σ _; exact Ey_no
  | succ k ih =>
    intro b L σ hb
    match b with
    | 0 =>
      refine Ey_eq (by rw [y_X1_member]) ?_
      exact Ey_ite (ih _ _ _ hb) (Ey_ite (ih _ _ _ hb) (Ey_ite (Ey_ite (ih _ _ _ hb) (Ey_ite (ih _ _ _ hb) (Ey_no))) (Ey_no)))
    | 1 =>
      refine Ey_eq (by rw [y_X1_member]) ?_
      exact ih _ _ _ hb
    | 2 =>
      refine Ey_eq (by rw [y_X1_member]) ?_
      exact Ey_so hb
    | b + 3 =>
      exact Ey_eq (by rw [y_X1_member]) Ey_no
theorem k7_y_X1_compareWholes : ∀ (k b : Nat) (L : LV) (σ : CS), K7 w σ → Ey w (y_X1_compareWholes k b L σ) := by
  intro k
  induction k with
  | zero => intro b L σ _; exact Ey_no
  | succ k ih =>
    intro b L σ hb
    match b with
    | 0 =>
      refine Ey_eq (by rw [y_X1_compareWholes]) ?_
      exact Ey_ite (ih _ _ _ hb) (Ey_ite (Ey_ite (ih _ _ _ hb) (ih _ _ _ hb)) (Ey_no))
    | 1 =>
      refine Ey_eq (by rw [y_X1_compareWholes]) ?_
      exact ih _ _ _ hb
    | 2 =>
      refine Ey_eq (by rw [y_X1_compareWholes]) ?_
      exact Ey_ite (ih _ _ _ hb) (Ey_ite (Ey_ite (ih _ _ _ hb) (ih _ _ _ hb)) (Ey_no))
    | 3 =>
      refine Ey_eq (by rw [y_X1_compareWholes]) ?_
      exact ih _ _ _ hb
    | 4 =>
      refine Ey_eq (by rw [y_X1_compareWholes]) ?_
      exact Ey_ite (ih _ _ _ hb) (Ey_ite (ih _ _ _ hb) (ih _ _ _ hb))
    | 5 =>
      refine Ey_eq (by rw [y_X1_compareWholes]) ?_
      exact Ey_ite (ih _ _ _ hb) (Ey_ite (ih _ _ _ hb) (ih _ _ _ hb))
    | 6 =>
      refine Ey_eq (by rw [y_X1_compareWholes]) ?_
      exact ih _ _ _ hb
    | 7 =>
      refine Ey_eq (by rw [y_X1_compareWholes]) ?_
      exact Ey_so hb
    | 8 =>
      refine Ey_eq (by rw [y_X1_compareWholes]) ?_
      exact Ey_ite (ih _ _ _ hb) (ih _ _ _ hb)
    | 9 =>
      refine Ey_eq (by rw [y_X1_compareWholes]) ?_
      exact Ey_ite (Ey_ite (Ey_ite (ih _ _ _ hb) (ih _ _ _ hb)) (Ey_no)) (Ey_no)
    | 10 =>
      refine Ey_eq (by rw [y_X1_compareWholes]) ?_
      exact ih _ _ _ hb
    | 11 =>
      refine Ey_eq (by rw [y_X1_compareWholes]) ?_
      exact Ey_so hb
    | 12 =>
      refine Ey_eq (by rw [y_X1_compareWholes]) ?_
      exact Ey_ite (ih _ _ _ hb) (ih _ _ _ hb)
    | 13 =>
      refine Ey_eq (by rw [y_X1_compareWholes]) ?_
      exact ih _ _ _ hb
    | 14 =>
      refine Ey_eq (by rw [y_X1_compareWholes]) ?_
      exact ih _ _ _ hb
    | 15 =>
      refine Ey_eq (by rw [y_X1_compareWholes]) ?_
      exact Ey_ite (ih _ _ _ hb) (Ey_ite (Ey_ite (Ey_ite (Ey_ite (ih _ _ _ hb) (ih _ _ _ hb)) (Ey_no)) (Ey_no)) (ih _ _ _ hb))
    | 16 =>
      refine Ey_eq (by rw [y_X1_compareWholes]) ?_
      exact Ey_ite (ih _ _ _ hb) (ih _ _ _ hb)
    | 17 =>
      refine Ey_eq (by rw [y_X1_compareWholes]) ?_
      exact Ey_ite (ih _ _ _ hb) (ih _ _ _ hb)
    | 18 =>
      refine Ey_eq (by rw [y_X1_compareWholes]) ?_
      exact ih _ _ _ hb
    | 19 =>
      refine Ey_eq (by rw [y_X1_compareWholes]) ?_
      exact ih _ _ _ hb
    | 20 =>
      refine Ey_eq (by rw [y_X1_compareWholes]) ?_
      exact Ey_so hb
    | 21 =>
      refine Ey_eq (by rw [y_X1_compareWholes]) ?_
      exact ih _ _ _ hb
    | b + 22 =>
      exact Ey_eq (by rw [y_X1_compareWholes]) Ey_no
theorem k7_y_X1_compareStrings : ∀ (k b : Nat) (L : LV) (σ : CS), K7 w σ → Ey w (y_X1_compareStrings k b L σ) := by
  intro k
  induction k with
  | zero => intro b L σ _; exact Ey_no
  | succ k ih =>
    intro b L σ hb
    match b with
    | 0 =>
      refine Ey_eq (by rw [y_X1_compareStrings]) ?_
      exact Ey_ite (ih _ _ _ hb) (ih _ _ _ hb)
    | 1 =>
      refine Ey_eq (by rw [y_X1_compareStrings]) ?_
      exact Ey_ite (ih _ _ _ hb) (Ey_no)
    | 2 =>
      refine Ey_eq (by rw [y_X1_compareStrings]) ?_
      exact Ey_ite (ih _ _ _ hb) (ih _ _ _ hb)
    | 3 =>
      refine Ey_eq (by rw [y_X1_compareStrings]) ?_
      exact Ey_ite (ih _ _ _ hb) (Ey_no)
    | 4 =>
      refine Ey_eq (by rw [y_X1_compareStrings]) ?_
      exact ih _ _ _ hb
    | 5 =>
      refine Ey_eq (by rw [y_X1_compareStrings]) ?_
      exact Ey_ite (ih _ _ _ hb) (Ey_ite (ih _ _ _ hb) (Ey_ite (ih _ _ _ hb) (ih _ _ _ hb)))
    | 6 =>
      refine Ey_eq (by rw [y_X1_compareStrings]) ?_
      exact Ey_ite (ih _ _ _ hb) (ih _ _ _ hb)
    | 7 =>
      refine Ey_eq (by rw [y_X1_compareStrings]) ?_
      exact Ey_ite (ih _ _ _ hb) (Ey_no)
    | 8 =>
      refine Ey_eq (by rw [y_X1_compareStrings]) ?_
      exact Ey_ite (ih _ _ _ hb) (ih _ _ _ hb)
    | 9 =>
      refine Ey_eq (by rw [y_X1_compareStrings]) ?_
      exact Ey_ite (ih _ _ _ hb) (ih _ _ _ hb)
    | 10 =>
      refine Ey_eq (by rw [y_X1_compareStrings]) ?_
      exact Ey_so hb
    | 11 =>
      refine Ey_eq (by rw [y_X1_compareStrings]) ?_
      exact Ey_ite (ih _ _ _ hb) (Ey_no)
    | 12 =>
      refine Ey_eq (by rw [y_X1_compareStrings]) ?_
      exact Ey_ite (ih _ _ _ hb) (Ey_ite (ih _ _ _ hb) (ih _ _ _ hb))
    | 13 =>
      refine Ey_eq (by rw [y_X1_compareStrings]) ?_
      exact ih _ _ _ hb
    | 14 =>
      refine Ey_eq (by rw [y_X1_compareStrings]) ?_
      exact ih _ _ _ hb
    | 15 =>
      refine Ey_eq (by rw [y_X1_compareStrings]) ?_
      exact ih _ _ _ hb
    | 16 =>
      refine Ey_eq (by rw [y_X1_compareStrings]) ?_
      exact Ey_so hb
    | b + 17 =>
      exact Ey_eq (by rw [y_X1_compareStrings]) Ey_no
theorem k7_t_X1_compare {X : Nat → Nat → Nat → LV → CS → Option (Int32 × CS)} (hX : ∀ e m b L (σ : CS), K7 w σ → Ey w (X e m b L σ)) (K d b : Nat) (L : LV) (σ : CS) (hb : K7 w σ) : Ey w (t_X1_compare X K d b L σ) := by
  match b with
  | 0 => exact Ey_ite (Ey_so hb) (hX _ _ _ _ _ hb)
  | 1 => exact Ey_ite (hX _ _ _ _ _ hb) (hX _ _ _ _ _ hb)
  | 2 => exact Ey_ite (hX _ _ _ _ _ hb) (Ey_no)
  | 3 => exact Ey_ite (hX _ _ _ _ _ hb) (hX _ _ _ _ _ hb)
  | 4 => exact Ey_ite (hX _ _ _ _ _ hb) (Ey_no)
  | 5 => exact Ey_ite (hX _ _ _ _ _ hb) (Ey_ite (hX _ _ _ _ _ hb) (hX _ _ _ _ _ hb))
  | 6 => exact Ey_ite (hX _ _ _ _ _ hb) (Ey_ite (hX _ _ _ _ _ hb) (Ey_ite (hX _ _ _ _ _ hb) (hX _ _ _ _ _ hb)))
  | 7 => exact hX _ _ _ _ _ hb
  | 8 => exact Ey_so hb
  | 9 => exact Ey_ite (hX _ _ _ _ _ hb) (Ey_ite (Ey_oc (k7_y_X1_compareWholes _ _ _ _ hb) (fun _ h25 => hX _ _ _ _ _ h25)) (hX _ _ _ _ _ hb))
  | 10 => exact hX _ _ _ _ _ hb
  | 11 => exact Ey_so hb
  | 12 => exact Ey_ite (Ey_ite (hX _ _ _ _ _ hb) (Ey_no)) (Ey_no)
  | 13 => exact Ey_oc (k7_y_X1_compareStrings _ _ _ _ hb) (fun _ h26 => hX _ _ _ _ _ h26)
  | 14 => exact Ey_so hb
  | 15 => exact Ey_ite (hX _ _ _ _ _ hb) (Ey_ite (hX _ _ _ _ _ hb) (Ey_ite (Ey_ite (Ey_ite (hX _ _ _ _ _ hb) (hX _ _ _ _ _ hb)) (Ey_no)) (Ey_no)))
  | 16 => exact Ey_ite (hX _ _ _ _ _ hb) (hX _ _ _ _ _ hb)
  | 17 => exact Ey_ite (Ey_ite (Ey_oe (fun _ => Ey_oc (hX _ _ _ _ _ hb) (fun _ h27 => hX _ _ _ _ _ h27))) (Ey_no)) (Ey_no)
  | 18 => exact Ey_ite (hX _ _ _ _ _ hb) (Ey_so hb)
  | 19 => exact Ey_ite (hX _ _ _ _ _ hb) (hX _ _ _ _ _ hb)
  | 20 => exact Ey_so hb
  | 21 => exact hX _ _ _ _ _ hb
  | 22 => exact hX _ _ _ _ _ hb
  | b + 23 => exact Ey_no
theorem k7_y_H1 : ∀ (k d m b : Nat) (L : LV) (σ : CS), K7 w σ → Ey w (y_H1 k d m b L σ) := by
  intro k
  induction k with
  | zero => intro d m b L σ _; exact Ey_no
  | succ k ih =>
    intro d m b L σ hb
    match m with
    | 0 => exact k7_t_X1_compare ih k d b L σ hb
    | m + 1 => exact Ey_no
theorem k7_y_X1_compare (k b : Nat) (L : LV) (σ : CS) (hb : K7 w σ) : Ey w (y_X1_compare k b L σ) := k7_y_H1 k 60 0 b L σ hb
theorem k7_y_X0_placeOf : ∀ (k b : Nat) (L : LV) (σ : CS), K7 w σ → Ey w (y_X0_placeOf k b L σ) := by
  intro k
  induction k with
  | zero => intro b L σ _; exact Ey_no
  | succ k ih =>
    intro b L σ hb
    match b with
    | 0 =>
      refine Ey_eq (by rw [y_X0_placeOf]) ?_
      exact Ey_oc (k7_y_X1_length _ _ _ _ hb) (fun _ h28 => ih _ _ _ h28)
    | 1 =>
      refine Ey_eq (by rw [y_X0_placeOf]) ?_
      exact Ey_ite (ih _ _ _ hb) (Ey_ite (ih _ _ _ hb) (Ey_oc (k7_y_X1_member _ _ _ _ hb) (fun _ h29 => Ey_oc (k7_y_X1_compare _ _ _ _ h29) (fun _ h30 => Ey_ite (ih _ _ _ h30) (ih _ _ _ h30)))))
    | 2 =>
      refine Ey_eq (by rw [y_X0_placeOf]) ?_
      exact Ey_so hb
    | 3 =>
      refine Ey_eq (by rw [y_X0_placeOf]) ?_
      exact ih _ _ _ hb
    | 4 =>
      refine Ey_eq (by rw [y_X0_placeOf]) ?_
      exact ih _ _ _ hb
    | b + 5 =>
      exact Ey_eq (by rw [y_X0_placeOf]) Ey_no
theorem k7_y_X1_same : ∀ (k b : Nat) (L : LV) (σ : CS), K7 w σ → Ey w (y_X1_same k b L σ) := by
  intro k
  induction k with
  | zero => intro b L σ _; exact Ey_no
  | succ k ih =>
    intro b L σ hb
    match b with
    | 0 =>
      refine Ey_eq (by rw [y_X1_same]) ?_
      exact Ey_ite (ih _ _ _ hb) (Ey_ite (ih _ _ _ hb) (Ey_ite (ih _ _ _ hb) (Ey_ite (Ey_ite (Ey_ite (Ey_oc (k7_y_X1_compare _ _ _ _ hb) (fun _ h31 => Ey_ite (ih _ _ _ h31) (ih _ _ _ h31))) (ih _ _ _ hb)) (Ey_no)) (Ey_no))))
    | 1 =>
      refine Ey_eq (by rw [y_X1_same]) ?_
      exact ih _ _ _ hb
    | 2 =>
      refine Ey_eq (by rw [y_X1_same]) ?_
      exact ih _ _ _ hb
    | 3 =>
      refine Ey_eq (by rw [y_X1_same]) ?_
      exact Ey_ite (Ey_so hb) (Ey_no)
    | b + 4 =>
      exact Ey_eq (by rw [y_X1_same]) Ey_no
theorem k7_y_X1_makeRow__a16 : ∀ (k b : Nat) (L : LV) (σ : CS), K7 w σ → Ey w (y_X1_makeRow__a16 k b L σ) := by
  intro k
  induction k with
  | zero => intro b L σ _; exact Ey_no
  | succ k ih =>
    intro b L σ hb
    match b with
    | 0 =>
      refine Ey_eq (by rw [y_X1_makeRow__a16]) ?_
      exact Ey_ite (ih _ _ _ hb) (Ey_ite (ih _ _ _ hb) (ih _ _ _ hb))
    | 1 =>
      refine Ey_eq (by rw [y_X1_makeRow__a16]) ?_
      exact Ey_ite (ih _ _ _ hb) (ih _ _ _ hb)
    | 2 =>
      refine Ey_eq (by rw [y_X1_makeRow__a16]) ?_
      exact ih _ _ _ hb
    | 3 =>
      refine Ey_eq (by rw [y_X1_makeRow__a16]) ?_
      exact Ey_so hb
    | 4 =>
      refine Ey_eq (by rw [y_X1_makeRow__a16]) ?_
      exact ih _ _ _ hb
    | 5 =>
      refine Ey_eq (by rw [y_X1_makeRow__a16]) ?_
      exact ih _ _ _ hb
    | 6 =>
      refine Ey_eq (by rw [y_X1_makeRow__a16]) ?_
      exact Ey_ite (ih _ _ _ hb) (Ey_ite (ih _ _ _ hb) (Ey_ite (Ey_ite (ih _ _ _ hb) (Ey_ite (Ey_ite (ih _ _ _ hb) (ih _ _ _ hb)) (Ey_no))) (Ey_no)))
    | 7 =>
      refine Ey_eq (by rw [y_X1_makeRow__a16]) ?_
      exact Ey_ite (ih _ _ _ hb) (Ey_ite (ih _ _ _ hb) (ih _ _ _ hb))
    | 8 =>
      refine Ey_eq (by rw [y_X1_makeRow__a16]) ?_
      exact Ey_ite (ih _ _ _ hb) (Ey_ite (Ey_ite (ih _ _ _ hb) (ih _ _ _ hb)) (ih _ _ _ hb))
    | 9 =>
      refine Ey_eq (by rw [y_X1_makeRow__a16]) ?_
      exact ih _ _ _ hb
    | 10 =>
      refine Ey_eq (by rw [y_X1_makeRow__a16]) ?_
      exact Ey_ite (ih _ _ _ hb) (Ey_ite (ih _ _ _ hb) (ih _ _ _ hb))
    | 11 =>
      refine Ey_eq (by rw [y_X1_makeRow__a16]) ?_
      exact Ey_so hb
    | 12 =>
      refine Ey_eq (by rw [y_X1_makeRow__a16]) ?_
      exact Ey_ite (ih _ _ _ hb) (Ey_so hb)
    | 13 =>
      refine Ey_eq (by rw [y_X1_makeRow__a16]) ?_
      exact ih _ _ _ hb
    | 14 =>
      refine Ey_eq (by rw [y_X1_makeRow__a16]) ?_
      exact ih _ _ _ hb
    | 15 =>
      refine Ey_eq (by rw [y_X1_makeRow__a16]) ?_
      exact ih _ _ _ hb
    | 16 =>
      refine Ey_eq (by rw [y_X1_makeRow__a16]) ?_
      exact ih _ _ _ hb
    | 17 =>
      refine Ey_eq (by rw [y_X1_makeRow__a16]) ?_
      exact Ey_ite (ih _ _ _ (uI_K7 (by decide) hb)) (ih _ _ _ (uI_K7 (by decide) hb))
    | 18 =>
      refine Ey_eq (by rw [y_X1_makeRow__a16]) ?_
      exact ih _ _ _ hb
    | 19 =>
      refine Ey_eq (by rw [y_X1_makeRow__a16]) ?_
      exact ih _ _ _ hb
    | 20 =>
      refine Ey_eq (by rw [y_X1_makeRow__a16]) ?_
      exact ih _ _ _ hb
    | 21 =>
      refine Ey_eq (by rw [y_X1_makeRow__a16]) ?_
      exact Ey_ite (Ey_ite (Ey_so (uF_K7 (by decide) (uA_K7 (by decide) hb))) (Ey_no)) (Ey_no)
    | b + 22 =>
      exact Ey_eq (by rw [y_X1_makeRow__a16]) Ey_no
theorem k7_y_X0_union : ∀ (k b : Nat) (L : LV) (σ : CS), K7 w σ → Ey w (y_X0_union k b L σ) := by
  intro k
  induction k with
  | zero => intro b L σ _; exact Ey_no
  | succ k ih =>
    intro b L σ hb
    match b with
    | 0 =>
      refine Ey_eq (by rw [y_X0_union]) ?_
      exact ih _ _ _ hb
    | 1 =>
      refine Ey_eq (by rw [y_X0_union]) ?_
      exact Ey_oc (k7_y_X1_length _ _ _ _ hb) (fun _ h32 => Ey_ite (ih _ _ _ h32) (Ey_oc (k7_y_X1_member _ _ _ _ h32) (fun _ h33 => Ey_oc (k7_y_X0_placeOf _ _ _ _ h33) (fun _ h34 => Ey_oc (k7_y_X0_load _ _ _ _ h34) (fun _ h35 => Ey_oc (k7_y_X1_length _ _ _ _ h35) (fun _ h36 => Ey_ite (ih _ _ _ h36) (Ey_oc (k7_y_X1_member _ _ _ _ h36) (fun _ h37 => Ey_oc (k7_y_X1_same _ _ _ _ h37) (fun _ h38 => Ey_ite (ih _ _ _ h38) (ih _ _ _ h38))))))))))
    | 2 =>
      refine Ey_eq (by rw [y_X0_union]) ?_
      exact Ey_oc (k7_y_X1_length _ _ _ _ hb) (fun _ h39 => Ey_oc (k7_y_X0_load _ _ _ _ h39) (fun _ h40 => Ey_oc (k7_y_X1_makeRow__a16 _ _ _ _ h40) (fun _ h41 => Ey_so h41)))
    | 3 =>
      refine Ey_eq (by rw [y_X0_union]) ?_
      exact Ey_ite (ih _ _ _ hb) (Ey_ite (ih _ _ _ (uA_K7 (by decide) hb)) (Ey_no))
    | 4 =>
      refine Ey_eq (by rw [y_X0_union]) ?_
      exact ih _ _ _ hb
    | b + 5 =>
      exact Ey_eq (by rw [y_X0_union]) Ey_no
theorem k7_y_X1_makeTuple__a16 : ∀ (k b : Nat) (L : LV) (σ : CS), K7 w σ → Ey w (y_X1_makeTuple__a16 k b L σ) := by
  intro k
  induction k with
  | zero => intro b L σ _; exact Ey_no
  | succ k ih =>
    intro b L σ hb
    match b with
    | 0 =>
      refine Ey_eq (by rw [y_X1_makeTuple__a16]) ?_
      exact ih _ _ _ hb
    | 1 =>
      refine Ey_eq (by rw [y_X1_makeTuple__a16]) ?_
      exact Ey_ite (ih _ _ _ hb) (Ey_ite (Ey_ite (ih _ _ _ hb) (ih _ _ _ hb)) (Ey_no))
    | 2 =>
      refine Ey_eq (by rw [y_X1_makeTuple__a16]) ?_
      exact Ey_oc (k7_y_X1_makeRow__a16 _ _ _ _ hb) (fun _ h42 => Ey_so h42)
    | b + 3 =>
      exact Ey_eq (by rw [y_X1_makeTuple__a16]) Ey_no
theorem k7_y_X0_sum : ∀ (k b : Nat) (L : LV) (σ : CS), K7 w σ → Ey w (y_X0_sum k b L σ) := by
  intro k
  induction k with
  | zero => intro b L σ _; exact Ey_no
  | succ k ih =>
    intro b L σ hb
    match b with
    | 0 =>
      refine Ey_eq (by rw [y_X0_sum]) ?_
      exact Ey_oc (k7_y_X1_kind _ _ _ _ hb) (fun _ h43 => Ey_oc (k7_y_X1_kind _ _ _ _ h43) (fun _ h44 => Ey_ite (ih _ _ _ h44) (Ey_so h44)))
    | 1 =>
      refine Ey_eq (by rw [y_X0_sum]) ?_
      exact Ey_ite (ih _ _ _ hb) (Ey_ite (ih _ _ _ hb) (Ey_ite (ih _ _ _ hb) (Ey_ite (ih _ _ _ hb) (Ey_ite (ih _ _ _ hb) (ih _ _ _ hb)))))
    | 2 =>
      refine Ey_eq (by rw [y_X0_sum]) ?_
      exact Ey_oc (k7_y_X10_added _ _ _ _ hb) (fun _ h45 => Ey_so h45)
    | 3 =>
      refine Ey_eq (by rw [y_X0_sum]) ?_
      exact Ey_so hb
    | 4 =>
      refine Ey_eq (by rw [y_X0_sum]) ?_
      exact Ey_oc (k7_y_X0_joined _ _ _ _ hb) (fun _ h46 => Ey_so h46)
    | 5 =>
      refine Ey_eq (by rw [y_X0_sum]) ?_
      exact Ey_oc (k7_y_X1_length _ _ _ _ hb) (fun _ h47 => Ey_oc (k7_y_X0_load _ _ _ _ h47) (fun _ h48 => Ey_oc (k7_y_X1_length _ _ _ _ h48) (fun _ h49 => Ey_oc (k7_y_X0_load _ _ _ _ h49) (fun _ h50 => Ey_oc (k7_y_X1_makeTuple__a16 _ _ _ _ h50) (fun _ h51 => Ey_so h51)))))
    | 6 =>
      refine Ey_eq (by rw [y_X0_sum]) ?_
      exact Ey_oc (k7_y_X1_length _ _ _ _ hb) (fun _ h52 => Ey_oc (k7_y_X1_length _ _ _ _ h52) (fun _ h53 => Ey_ite (ih _ _ _ h53) (Ey_oc (k7_y_X0_union _ _ _ _ h53) (fun _ h54 => ih _ _ _ h54))))
    | 7 =>
      refine Ey_eq (by rw [y_X0_sum]) ?_
      exact Ey_oc (k7_y_X0_union _ _ _ _ hb) (fun _ h55 => ih _ _ _ h55)
    | 8 =>
      refine Ey_eq (by rw [y_X0_sum]) ?_
      exact Ey_so hb
    | b + 9 =>
      exact Ey_eq (by rw [y_X0_sum]) Ey_no
theorem k7_y_X0_areWholes : ∀ (k b : Nat) (L : LV) (σ : CS), K7 w σ → Ey w (y_X0_areWholes k b L σ) := by
  intro k
  induction k with
  | zero => intro b L σ _; exact Ey_no
  | succ k ih =>
    intro b L σ hb
    match b with
    | 0 =>
      refine Ey_eq (by rw [y_X0_areWholes]) ?_
      exact Ey_oc (k7_y_X1_kind _ _ _ _ hb) (fun _ h56 => Ey_ite (Ey_oc (k7_y_X1_kind _ _ _ _ h56) (fun _ h57 => Ey_ite (ih _ _ _ h57) (ih _ _ _ h57))) (ih _ _ _ h56))
    | 1 =>
      refine Ey_eq (by rw [y_X0_areWholes]) ?_
      exact ih _ _ _ hb
    | 2 =>
      refine Ey_eq (by rw [y_X0_areWholes]) ?_
      exact Ey_ite (Ey_so hb) (Ey_no)
    | b + 3 =>
      exact Ey_eq (by rw [y_X0_areWholes]) Ey_no
theorem k7_y_X0_areSets : ∀ (k b : Nat) (L : LV) (σ : CS), K7 w σ → Ey w (y_X0_areSets k b L σ) := by
  intro k
  induction k with
  | zero => intro b L σ _; exact Ey_no
  | succ k ih =>
    intro b L σ hb
    match b with
    | 0 =>
      refine Ey_eq (by rw [y_X0_areSets]) ?_
      exact Ey_oc (k7_y_X1_kind _ _ _ _ hb) (fun _ h58 => Ey_ite (Ey_oc (k7_y_X1_kind _ _ _ _ h58) (fun _ h59 => Ey_ite (ih _ _ _ h59) (ih _ _ _ h59))) (ih _ _ _ h58))
    | 1 =>
      refine Ey_eq (by rw [y_X0_areSets]) ?_
      exact ih _ _ _ hb
    | 2 =>
      refine Ey_eq (by rw [y_X0_areSets]) ?_
      exact Ey_ite (Ey_so hb) (Ey_no)
    | b + 3 =>
      exact Ey_eq (by rw [y_X0_areSets]) Ey_no
theorem k7_y_X0_chosen : ∀ (k b : Nat) (L : LV) (σ : CS), K7 w σ → Ey w (y_X0_chosen k b L σ) := by
  intro k
  induction k with
  | zero => intro b L σ _; exact Ey_no
  | succ k ih =>
    intro b L σ hb
    match b with
    | 0 =>
      refine Ey_eq (by rw [y_X0_chosen]) ?_
      exact ih _ _ _ hb
    | 1 =>
      refine Ey_eq (by rw [y_X0_chosen]) ?_
      exact Ey_oc (k7_y_X1_length _ _ _ _ hb) (fun _ h60 => Ey_ite (ih _ _ _ h60) (Ey_ite (ih _ _ _ h60) (Ey_oc (k7_y_X1_member _ _ _ _ h60) (fun _ h61 => Ey_oc (k7_y_X0_placeOf _ _ _ _ h61) (fun _ h62 => Ey_oc (k7_y_X1_length _ _ _ _ h62) (fun _ h63 => Ey_ite (ih _ _ _ h63) (Ey_oc (k7_y_X1_member _ _ _ _ h63) (fun _ h64 => Ey_oc (k7_y_X1_same _ _ _ _ h64) (fun _ h65 => Ey_ite (ih _ _ _ h65) (ih _ _ _ h65))))))))))
    | 2 =>
      refine Ey_eq (by rw [y_X0_chosen]) ?_
      exact Ey_oc (k7_y_X1_makeRow__a16 _ _ _ _ hb) (fun _ h66 => Ey_so h66)
    | 3 =>
      refine Ey_eq (by rw [y_X0_chosen]) ?_
      exact ih _ _ _ hb
    | 4 =>
      refine Ey_eq (by rw [y_X0_chosen]) ?_
      exact Ey_ite (Ey_ite (ih _ _ _ (uA_K7 (by decide) hb)) (Ey_no)) (ih _ _ _ hb)
    | 5 =>
      refine Ey_eq (by rw [y_X0_chosen]) ?_
      exact ih _ _ _ hb
    | b + 6 =>
      exact Ey_eq (by rw [y_X0_chosen]) Ey_no
theorem k7_y_X0_without : ∀ (k b : Nat) (L : LV) (σ : CS), K7 w σ → Ey w (y_X0_without k b L σ) := by
  intro k
  induction k with
  | zero => intro b L σ _; exact Ey_no
  | succ k ih =>
    intro b L σ hb
    match b with
    | 0 =>
      refine Ey_eq (by rw [y_X0_without]) ?_
      exact ih _ _ _ hb
    | 1 =>
      refine Ey_eq (by rw [y_X0_without]) ?_
      exact Ey_oc (k7_y_X1_length _ _ _ _ hb) (fun _ h67 => Ey_ite (ih _ _ _ h67) (Ey_oc (k7_y_X1_member _ _ _ _ h67) (fun _ h68 => Ey_oc (k7_y_X0_placeOf _ _ _ _ h68) (fun _ h69 => Ey_oc (k7_y_X0_load _ _ _ _ h69) (fun _ h70 => Ey_oc (k7_y_X1_length _ _ _ _ h70) (fun _ h71 => Ey_ite (ih _ _ _ h71) (Ey_oc (k7_y_X1_member _ _ _ _ h71) (fun _ h72 => Ey_oc (k7_y_X1_same _ _ _ _ h72) (fun _ h73 => Ey_ite (ih _ _ _ h73) (ih _ _ _ h73))))))))))
    | 2 =>
      refine Ey_eq (by rw [y_X0_without]) ?_
      exact Ey_oc (k7_y_X1_length _ _ _ _ hb) (fun _ h74 => Ey_oc (k7_y_X0_load _ _ _ _ h74) (fun _ h75 => Ey_oc (k7_y_X1_makeRow__a16 _ _ _ _ h75) (fun _ h76 => Ey_so h76)))
    | 3 =>
      refine Ey_eq (by rw [y_X0_without]) ?_
      exact ih _ _ _ hb
    | 4 =>
      refine Ey_eq (by rw [y_X0_without]) ?_
      exact ih _ _ _ hb
    | b + 5 =>
      exact Ey_eq (by rw [y_X0_without]) Ey_no
theorem k7_y_X0_difference : ∀ (k b : Nat) (L : LV) (σ : CS), K7 w σ → Ey w (y_X0_difference k b L σ) := by
  intro k
  induction k with
  | zero => intro b L σ _; exact Ey_no
  | succ k ih =>
    intro b L σ hb
    match b with
    | 0 =>
      refine Ey_eq (by rw [y_X0_difference]) ?_
      exact Ey_oc (k7_y_X0_areWholes _ _ _ _ hb) (fun _ h77 => Ey_ite (ih _ _ _ h77) (Ey_oc (k7_y_X10_added _ _ _ _ h77) (fun _ h78 => Ey_so h78)))
    | 1 =>
      refine Ey_eq (by rw [y_X0_difference]) ?_
      exact Ey_oc (k7_y_X0_areSets _ _ _ _ hb) (fun _ h79 => Ey_ite (Ey_so h79) (ih _ _ _ h79))
    | 2 =>
      refine Ey_eq (by rw [y_X0_difference]) ?_
      exact Ey_oc (k7_y_X1_length _ _ _ _ hb) (fun _ h80 => Ey_oc (k7_y_X1_length _ _ _ _ h80) (fun _ h81 => Ey_ite (ih _ _ _ h81) (Ey_oc (k7_y_X0_chosen _ _ _ _ h81) (fun _ h82 => ih _ _ _ h82))))
    | 3 =>
      refine Ey_eq (by rw [y_X0_difference]) ?_
      exact Ey_oc (k7_y_X0_without _ _ _ _ hb) (fun _ h83 => ih _ _ _ h83)
    | 4 =>
      refine Ey_eq (by rw [y_X0_difference]) ?_
      exact Ey_so hb
    | b + 5 =>
      exact Ey_eq (by rw [y_X0_difference]) Ey_no
theorem k7_y_X10_product : ∀ (k b : Nat) (L : LV) (σ : CS), K7 w σ → Ey w (y_X10_product k b L σ) := by
  intro k
  induction k with
  | zero => intro b L σ _; exact Ey_no
  | succ k ih =>
    intro b L σ hb
    match b with
    | 0 =>
      refine Ey_eq (by rw [y_X10_product]) ?_
      exact Ey_ite (ih _ _ _ hb) (Ey_ite (ih _ _ _ hb) (Ey_oc (k7_y_X10_of _ _ _ _ hb) (fun _ h84 => Ey_so h84)))
    | 1 =>
      refine Ey_eq (by rw [y_X10_product]) ?_
      exact Ey_oc (k7_y_X10_load__a5 _ _ _ _ hb) (fun _ h85 => Ey_oc (k7_y_X10_load__a6 _ _ _ _ h85) (fun _ h86 => Ey_ite (ih _ _ _ h86) (Ey_ite (ih _ _ _ h86) (Ey_ite (ih _ _ _ h86) (ih _ _ _ h86)))))
    | 2 =>
      refine Ey_eq (by rw [y_X10_product]) ?_
      exact ih _ _ _ hb
    | 3 =>
      refine Ey_eq (by rw [y_X10_product]) ?_
      exact ih _ _ _ hb
    | 4 =>
      refine Ey_eq (by rw [y_X10_product]) ?_
      exact ih _ _ _ hb
    | 5 =>
      refine Ey_eq (by rw [y_X10_product]) ?_
      exact Ey_ite (ih _ _ _ hb) (Ey_ite (ih _ _ _ (uA_K7 (by decide) hb)) (Ey_no))
    | 6 =>
      refine Ey_eq (by rw [y_X10_product]) ?_
      exact Ey_so hb
    | 7 =>
      refine Ey_eq (by rw [y_X10_product]) ?_
      exact ih _ _ _ hb
    | 8 =>
      refine Ey_eq (by rw [y_X10_product]) ?_
      exact Ey_ite (ih _ _ _ hb) (Ey_ite (ih _ _ _ hb) (Ey_no))
    | 9 =>
      refine Ey_eq (by rw [y_X10_product]) ?_
      exact Ey_oc (k7_y_X10_isBelow _ _ _ _ hb) (fun _ h87 => Ey_oc (k7_y_X10_isBelow _ _ _ _ h87) (fun _ h88 => Ey_ite (ih _ _ _ h88) (ih _ _ _ h88)))
    | 10 =>
      refine Ey_eq (by rw [y_X10_product]) ?_
      exact Ey_ite (ih _ _ _ hb) (Ey_ite (Ey_ite (Ey_ite (ih _ _ _ (uA_K7 (by decide) hb)) (Ey_no)) (Ey_no)) (Ey_no))
    | 11 =>
      refine Ey_eq (by rw [y_X10_product]) ?_
      exact ih _ _ _ hb
    | 12 =>
      refine Ey_eq (by rw [y_X10_product]) ?_
      exact Ey_oc (k7_y_X10_made _ _ _ _ hb) (fun _ h89 => Ey_so h89)
    | 13 =>
      refine Ey_eq (by rw [y_X10_product]) ?_
      exact Ey_ite (ih _ _ _ (uA_K7 (by decide) hb)) (Ey_no)
    | b + 14 =>
      exact Ey_eq (by rw [y_X10_product]) Ey_no
theorem k7_y_X10_clamped : ∀ (k b : Nat) (L : LV) (σ : CS), K7 w σ → Ey w (y_X10_clamped k b L σ) := by
  intro k
  induction k with
  | zero => intro b L σ _; exact Ey_no
  | succ k ih =>
    intro b L σ hb
    match b with
    | 0 =>
      refine Ey_eq (by rw [y_X10_clamped]) ?_
      exact Ey_ite (ih _ _ _ hb) (Ey_so hb)
    | 1 =>
      refine Ey_eq (by rw [y_X10_clamped]) ?_
      exact Ey_ite (Ey_ite (ih _ _ _ hb) (ih _ _ _ hb)) (Ey_no)
    | 2 =>
      refine Ey_eq (by rw [y_X10_clamped]) ?_
      exact ih _ _ _ hb
    | 3 =>
      refine Ey_eq (by rw [y_X10_clamped]) ?_
      exact Ey_so hb
    | b + 4 =>
      exact Ey_eq (by rw [y_X10_clamped]) Ey_no
theorem k7_y_X0_repeated : ∀ (k b : Nat) (L : LV) (σ : CS), K7 w σ → Ey w (y_X0_repeated k b L σ) := by
  intro k
  induction k with
  | zero => intro b L σ _; exact Ey_no
  | succ k ih =>
    intro b L σ hb
    match b with
    | 0 =>
      refine Ey_eq (by rw [y_X0_repeated]) ?_
      exact Ey_oc (k7_y_X1_length _ _ _ _ hb) (fun _ h90 => Ey_ite (ih _ _ _ h90) (Ey_ite (ih _ _ _ h90) (ih _ _ _ h90)))
    | 1 =>
      refine Ey_eq (by rw [y_X0_repeated]) ?_
      exact Ey_ite (ih _ _ _ hb) (ih _ _ _ hb)
    | 2 =>
      refine Ey_eq (by rw [y_X0_repeated]) ?_
      exact Ey_ite (ih _ _ _ hb) (ih _ _ _ hb)
    | 3 =>
      refine Ey_eq (by rw [y_X0_repeated]) ?_
      exact ih _ _ _ hb
    | 4 =>
      refine Ey_eq (by rw [y_X0_repeated]) ?_
      exact Ey_so hb
    | 5 =>
      refine Ey_eq (by rw [y_X0_repeated]) ?_
      exact ih _ _ _ hb
    | 6 =>
      refine Ey_eq (by rw [y_X0_repeated]) ?_
      exact Ey_ite (ih _ _ _ hb) (Ey_so hb)
    | 7 =>
      refine Ey_eq (by rw [y_X0_repeated]) ?_
      exact ih _ _ _ hb
    | 8 =>
      refine Ey_eq (by rw [y_X0_repeated]) ?_
      exact Ey_ite (ih _ _ _ hb) (Ey_ite (Ey_oc (k7_y_X1_copyBytes__a15 _ _ _ _ hb) (fun _ h91 => ih _ _ _ h91)) (ih _ _ _ hb))
    | 9 =>
      refine Ey_eq (by rw [y_X0_repeated]) ?_
      exact Ey_ite (Ey_oc (k7_y_X1_makeString__a15 _ _ _ _ hb) (fun _ h92 => ih _ _ _ h92)) (ih _ _ _ hb)
    | 10 =>
      refine Ey_eq (by rw [y_X0_repeated]) ?_
      exact Ey_oc (k7_y_X0_load _ _ _ _ hb) (fun _ h93 => ih _ _ _ h93)
    | 11 =>
      refine Ey_eq (by rw [y_X0_repeated]) ?_
      exact ih _ _ _ hb
    | 12 =>
      refine Ey_eq (by rw [y_X0_repeated]) ?_
      exact Ey_oc (k7_y_X1_makeTuple__a16 _ _ _ _ hb) (fun _ h94 => ih _ _ _ h94)
    | 13 =>
      refine Ey_eq (by rw [y_X0_repeated]) ?_
      exact Ey_so hb
    | b + 14 =>
      exact Ey_eq (by rw [y_X0_repeated]) Ey_no
theorem k7_y_X0_product : ∀ (k b : Nat) (L : LV) (σ : CS), K7 w σ → Ey w (y_X0_product k b L σ) := by
  intro k
  induction k with
  | zero => intro b L σ _; exact Ey_no
  | succ k ih =>
    intro b L σ hb
    match b with
    | 0 =>
      refine Ey_eq (by rw [y_X0_product]) ?_
      exact Ey_oc (k7_y_X0_areWholes _ _ _ _ hb) (fun _ h95 => Ey_ite (ih _ _ _ h95) (Ey_oc (k7_y_X10_product _ _ _ _ h95) (fun _ h96 => Ey_so h96)))
    | 1 =>
      refine Ey_eq (by rw [y_X0_product]) ?_
      exact Ey_oc (k7_y_X0_areSets _ _ _ _ hb) (fun _ h97 => Ey_ite (ih _ _ _ h97) (Ey_oc (k7_y_X1_length _ _ _ _ h97) (fun _ h98 => Ey_oc (k7_y_X1_length _ _ _ _ h98) (fun _ h99 => Ey_ite (ih _ _ _ h99) (Ey_oc (k7_y_X0_chosen _ _ _ _ h99) (fun _ h100 => ih _ _ _ h100))))))
    | 2 =>
      refine Ey_eq (by rw [y_X0_product]) ?_
      exact Ey_oc (k7_y_X1_kind _ _ _ _ hb) (fun _ h101 => Ey_oc (k7_y_X1_kind _ _ _ _ h101) (fun _ h102 => Ey_ite (Ey_ite (ih _ _ _ h102) (Ey_ite (ih _ _ _ h102) (ih _ _ _ h102))) (ih _ _ _ h102)))
    | 3 =>
      refine Ey_eq (by rw [y_X0_product]) ?_
      exact Ey_oc (k7_y_X0_chosen _ _ _ _ hb) (fun _ h103 => ih _ _ _ h103)
    | 4 =>
      refine Ey_eq (by rw [y_X0_product]) ?_
      exact Ey_so hb
    | 5 =>
      refine Ey_eq (by rw [y_X0_product]) ?_
      exact Ey_so hb
    | 6 =>
      refine Ey_eq (by rw [y_X0_product]) ?_
      exact Ey_oc (k7_y_X10_isBelow _ _ _ _ hb) (fun _ h104 => Ey_ite (ih _ _ _ h104) (ih _ _ _ h104))
    | 7 =>
      refine Ey_eq (by rw [y_X0_product]) ?_
      exact Ey_oc (k7_y_X10_clamped _ _ _ _ hb) (fun _ h105 => Ey_oc (k7_y_X0_repeated _ _ _ _ h105) (fun _ h106 => ih _ _ _ h106))
    | 8 =>
      refine Ey_eq (by rw [y_X0_product]) ?_
      exact Ey_so hb
    | b + 9 =>
      exact Ey_eq (by rw [y_X0_product]) Ey_no
theorem k7_y_X10_number : ∀ (k b : Nat) (L : LV) (σ : CS), K7 w σ → Ey w (y_X10_number k b L σ) := by
  intro k
  induction k with
  | zero => intro b L σ _; exact Ey_no
  | succ k ih =>
    intro b L σ hb
    match b with
    | 0 =>
      refine Ey_eq (by rw [y_X10_number]) ?_
      exact Ey_so hb
    | b + 1 =>
      exact Ey_eq (by rw [y_X10_number]) Ey_no
theorem k7_y_X10_dividedSmall : ∀ (k b : Nat) (L : LV) (σ : CS), K7 w σ → Ey w (y_X10_dividedSmall k b L σ) := by
  intro k
  induction k with
  | zero => intro b L σ _; exact Ey_no
  | succ k ih =>
    intro b L σ hb
    match b with
    | 0 =>
      refine Ey_eq (by rw [y_X10_dividedSmall]) ?_
      exact Ey_ite (Ey_so hb) (ih _ _ _ hb)
    | 1 =>
      refine Ey_eq (by rw [y_X10_dividedSmall]) ?_
      exact Ey_ite (Ey_no) (Ey_ite (ih _ _ _ hb) (Ey_ite (ih _ _ _ hb) (ih _ _ _ hb)))
    | 2 =>
      refine Ey_eq (by rw [y_X10_dividedSmall]) ?_
      exact Ey_ite (ih _ _ _ hb) (ih _ _ _ hb)
    | 3 =>
      refine Ey_eq (by rw [y_X10_dividedSmall]) ?_
      exact ih _ _ _ hb
    | 4 =>
      refine Ey_eq (by rw [y_X10_dividedSmall]) ?_
      exact ih _ _ _ hb
    | 5 =>
      refine Ey_eq (by rw [y_X10_dividedSmall]) ?_
      exact Ey_ite (Ey_no) (ih _ _ _ hb)
    | 6 =>
      refine Ey_eq (by rw [y_X10_dividedSmall]) ?_
      exact Ey_oc (k7_y_X10_of _ _ _ _ hb) (fun _ h107 => Ey_so h107)
    | b + 7 =>
      exact Ey_eq (by rw [y_X10_dividedSmall]) Ey_no
theorem k7_y_X10_addBack : ∀ (k b : Nat) (L : LV) (σ : CS), K7 w σ → Ey w (y_X10_addBack k b L σ) := by
  intro k
  induction k with
  | zero => intro b L σ _; exact Ey_no
  | succ k ih =>
    intro b L σ hb
    match b with
    | 0 =>
      refine Ey_eq (by rw [y_X10_addBack]) ?_
      exact ih _ _ _ hb
    | 1 =>
      refine Ey_eq (by rw [y_X10_addBack]) ?_
      exact Ey_ite (ih _ _ _ hb) (Ey_ite (Ey_ite (Ey_ite (ih _ _ _ (uA_K7 (by decide) hb)) (Ey_no)) (Ey_no)) (Ey_no))
    | 2 =>
      refine Ey_eq (by rw [y_X10_addBack]) ?_
      exact Ey_ite (Ey_ite (Ey_so (uA_K7 (by decide) hb)) (Ey_no)) (Ey_no)
    | b + 3 =>
      exact Ey_eq (by rw [y_X10_addBack]) Ey_no
theorem k7_y_X10_quotientDigit : ∀ (k b : Nat) (L : LV) (σ : CS), K7 w σ → Ey w (y_X10_quotientDigit k b L σ) := by
  intro k
  induction k with
  | zero => intro b L σ _; exact Ey_no
  | succ k ih =>
    intro b L σ hb
    match b with
    | 0 =>
      refine Ey_eq (by rw [y_X10_quotientDigit]) ?_
      exact Ey_ite (ih _ _ _ hb) (Ey_ite (ih _ _ _ hb) (Ey_no))
    | 1 =>
      refine Ey_eq (by rw [y_X10_quotientDigit]) ?_
      exact ih _ _ _ hb
    | 2 =>
      refine Ey_eq (by rw [y_X10_quotientDigit]) ?_
      exact Ey_ite (Ey_so hb) (ih _ _ _ hb)
    | 3 =>
      refine Ey_eq (by rw [y_X10_quotientDigit]) ?_
      exact Ey_ite (ih _ _ _ hb) (Ey_ite (ih _ _ _ hb) (Ey_no))
    | 4 =>
      refine Ey_eq (by rw [y_X10_quotientDigit]) ?_
      exact ih _ _ _ hb
    | 5 =>
      refine Ey_eq (by rw [y_X10_quotientDigit]) ?_
      exact Ey_ite (ih _ _ _ hb) (Ey_ite (ih _ _ _ hb) (Ey_no))
    | 6 =>
      refine Ey_eq (by rw [y_X10_quotientDigit]) ?_
      exact ih _ _ _ hb
    | 7 =>
      refine Ey_eq (by rw [y_X10_quotientDigit]) ?_
      exact Ey_ite (Ey_ite (Ey_ite (Ey_no) (ih _ _ _ hb)) (Ey_no)) (Ey_no)
    | 8 =>
      refine Ey_eq (by rw [y_X10_quotientDigit]) ?_
      exact Ey_ite (ih _ _ _ hb) (Ey_ite (ih _ _ _ hb) (Ey_ite (ih _ _ _ hb) (Ey_ite (ih _ _ _ hb) (ih _ _ _ hb))))
    | 9 =>
      refine Ey_eq (by rw [y_X10_quotientDigit]) ?_
      exact ih _ _ _ hb
    | 10 =>
      refine Ey_eq (by rw [y_X10_quotientDigit]) ?_
      exact ih _ _ _ hb
    | 11 =>
      refine Ey_eq (by rw [y_X10_quotientDigit]) ?_
      exact Ey_ite (ih _ _ _ hb) (Ey_ite (Ey_ite (Ey_ite (ih _ _ _ (uA_K7 (by decide) hb)) (Ey_no)) (Ey_no)) (Ey_no))
    | 12 =>
      refine Ey_eq (by rw [y_X10_quotientDigit]) ?_
      exact Ey_ite (Ey_ite (Ey_ite (ih _ _ _ (uA_K7 (by decide) hb)) (Ey_oc (k7_y_X10_addBack _ _ _ _ (uA_K7 (by decide) hb)) (fun _ h108 => ih _ _ _ h108))) (Ey_no)) (Ey_no)
    | 13 =>
      refine Ey_eq (by rw [y_X10_quotientDigit]) ?_
      exact Ey_so hb
    | b + 14 =>
      exact Ey_eq (by rw [y_X10_quotientDigit]) Ey_no
theorem k7_y_J7_fill_53178__a10 : ∀ (k b : Nat) (L : LV) (σ : CS), K7 w σ → Ey w (y_J7_fill_53178__a10 k b L σ) := by
  intro k
  induction k with
  | zero => intro b L σ _; exact Ey_no
  | succ k ih =>
    intro b L σ hb
    match b with
    | 0 =>
      refine Ey_eq (by rw [y_J7_fill_53178__a10]) ?_
      exact ih _ _ _ hb
    | 1 =>
      refine Ey_eq (by rw [y_J7_fill_53178__a10]) ?_
      exact Ey_ite (ih _ _ _ hb) (Ey_ite (ih _ _ _ (uA_K7 (by decide) hb)) (Ey_no))
    | 2 =>
      refine Ey_eq (by rw [y_J7_fill_53178__a10]) ?_
      exact Ey_so hb
    | b + 3 =>
      exact Ey_eq (by rw [y_J7_fill_53178__a10]) Ey_no
theorem k7_y_J7_fill_53178__a8 : ∀ (k b : Nat) (L : LV) (σ : CS), K7 w σ → Ey w (y_J7_fill_53178__a8 k b L σ) := by
  intro k
  induction k with
  | zero => intro b L σ _; exact Ey_no
  | succ k ih =>
    intro b L σ hb
    match b with
    | 0 =>
      refine Ey_eq (by rw [y_J7_fill_53178__a8]) ?_
      exact ih _ _ _ hb
    | 1 =>
      refine Ey_eq (by rw [y_J7_fill_53178__a8]) ?_
      exact Ey_ite (ih _ _ _ hb) (Ey_ite (ih _ _ _ (uA_K7 (by decide) hb)) (Ey_no))
    | 2 =>
      refine Ey_eq (by rw [y_J7_fill_53178__a8]) ?_
      exact Ey_so hb
    | b + 3 =>
      exact Ey_eq (by rw [y_J7_fill_53178__a8]) Ey_no
theorem k7_y_J7_fill_53178__a9 : ∀ (k b : Nat) (L : LV) (σ : CS), K7 w σ → Ey w (y_J7_fill_53178__a9 k b L σ) := by
  intro k
  induction k with
  | zero => intro b L σ _; exact Ey_no
  | succ k ih =>
    intro b L σ hb
    match b with
    | 0 =>
      refine Ey_eq (by rw [y_J7_fill_53178__a9]) ?_
      exact ih _ _ _ hb
    | 1 =>
      refine Ey_eq (by rw [y_J7_fill_53178__a9]) ?_
      exact Ey_ite (ih _ _ _ hb) (Ey_ite (ih _ _ _ (uA_K7 (by decide) hb)) (Ey_no))
    | 2 =>
      refine Ey_eq (by rw [y_J7_fill_53178__a9]) ?_
      exact Ey_so hb
    | b + 3 =>
      exact Ey_eq (by rw [y_J7_fill_53178__a9]) Ey_no
theorem k7_y_X10_shiftUp__a8 : ∀ (k b : Nat) (L : LV) (σ : CS), K7 w σ → Ey w (y_X10_shiftUp__a8 k b L σ) := by
  intro k
  induction k with
  | zero => intro b L σ _; exact Ey_no
  | succ k ih =>
    intro b L σ hb
    match b with
    | 0 =>
      refine Ey_eq (by rw [y_X10_shiftUp__a8]) ?_
      exact ih _ _ _ hb
    | 1 =>
      refine Ey_eq (by rw [y_X10_shiftUp__a8]) ?_
      exact Ey_ite (ih _ _ _ hb) (Ey_ite (Ey_ite (ih _ _ _ (uA_K7 (by decide) hb)) (Ey_no)) (Ey_no))
    | 2 =>
      refine Ey_eq (by rw [y_X10_shiftUp__a8]) ?_
      exact Ey_so hb
    | b + 3 =>
      exact Ey_eq (by rw [y_X10_shiftUp__a8]) Ey_no
theorem k7_y_X10_shiftUp__a9 : ∀ (k b : Nat) (L : LV) (σ : CS), K7 w σ → Ey w (y_X10_shiftUp__a9 k b L σ) := by
  intro k
  induction k with
  | zero => intro b L σ _; exact Ey_no
  | succ k ih =>
    intro b L σ hb
    match b with
    | 0 =>
      refine Ey_eq (by rw [y_X10_shiftUp__a9]) ?_
      exact ih _ _ _ hb
    | 1 =>
      refine Ey_eq (by rw [y_X10_shiftUp__a9]) ?_
      exact Ey_ite (ih _ _ _ hb) (Ey_ite (Ey_ite (ih _ _ _ (uA_K7 (by decide) hb)) (Ey_no)) (Ey_no))
    | 2 =>
      refine Ey_eq (by rw [y_X10_shiftUp__a9]) ?_
      exact Ey_so hb
    | b + 3 =>
      exact Ey_eq (by rw [y_X10_shiftUp__a9]) Ey_no
theorem k7_y_X10_shiftDown__a8 : ∀ (k b : Nat) (L : LV) (σ : CS), K7 w σ → Ey w (y_X10_shiftDown__a8 k b L σ) := by
  intro k
  induction k with
  | zero => intro b L σ _; exact Ey_no
  | succ k ih =>
    intro b L σ hb
    match b with
    | 0 =>
      refine Ey_eq (by rw [y_X10_shiftDown__a8]) ?_
      exact ih _ _ _ hb
    | 1 =>
      refine Ey_eq (by rw [y_X10_shiftDown__a8]) ?_
      exact Ey_ite (ih _ _ _ hb) (Ey_ite (Ey_ite (Ey_ite (ih _ _ _ (uA_K7 (by decide) hb)) (Ey_no)) (Ey_no)) (Ey_no))
    | 2 =>
      refine Ey_eq (by rw [y_X10_shiftDown__a8]) ?_
      exact Ey_so hb
    | b + 3 =>
      exact Ey_eq (by rw [y_X10_shiftDown__a8]) Ey_no
theorem k7_y_X10_divideLimbs : ∀ (k b : Nat) (L : LV) (σ : CS), K7 w σ → Ey w (y_X10_divideLimbs k b L σ) := by
  intro k
  induction k with
  | zero => intro b L σ _; exact Ey_no
  | succ k ih =>
    intro b L σ hb
    match b with
    | 0 =>
      refine Ey_eq (by rw [y_X10_divideLimbs]) ?_
      exact Ey_oc (k7_y_J7_fill_53178__a10 _ _ _ _ hb) (fun _ h109 => Ey_oc (k7_y_J7_fill_53178__a8 _ _ _ _ h109) (fun _ h110 => Ey_oc (k7_y_J7_fill_53178__a9 _ _ _ _ h110) (fun _ h111 => ih _ _ _ h111)))
    | 1 =>
      refine Ey_eq (by rw [y_X10_divideLimbs]) ?_
      exact ih _ _ _ hb
    | 2 =>
      refine Ey_eq (by rw [y_X10_divideLimbs]) ?_
      exact Ey_ite (ih _ _ _ hb) (Ey_ite (Ey_ite (Ey_ite (Ey_ite (ih _ _ _ (uA_K7 (by decide) (uA_K7 (by decide) hb))) (Ey_no)) (Ey_no)) (Ey_no)) (Ey_no))
    | 3 =>
      refine Ey_eq (by rw [y_X10_divideLimbs]) ?_
      exact ih _ _ _ hb
    | 4 =>
      refine Ey_eq (by rw [y_X10_divideLimbs]) ?_
      exact Ey_ite (ih _ _ _ hb) (Ey_ite (Ey_ite (Ey_ite (Ey_ite (ih _ _ _ (uA_K7 (by decide) (uA_K7 (by decide) hb))) (Ey_no)) (Ey_no)) (Ey_no)) (Ey_no))
    | 5 =>
      refine Ey_eq (by rw [y_X10_divideLimbs]) ?_
      exact Ey_ite (ih _ _ _ hb) (Ey_ite (Ey_ite (ih _ _ _ hb) (ih _ _ _ hb)) (Ey_no))
    | 6 =>
      refine Ey_eq (by rw [y_X10_divideLimbs]) ?_
      exact ih _ _ _ hb
    | 7 =>
      refine Ey_eq (by rw [y_X10_divideLimbs]) ?_
      exact Ey_ite (ih _ _ _ hb) (Ey_ite (ih _ _ _ hb) (Ey_ite (Ey_ite (ih _ _ _ hb) (ih _ _ _ hb)) (Ey_no)))
    | 8 =>
      refine Ey_eq (by rw [y_X10_divideLimbs]) ?_
      exact Ey_oc (k7_y_X10_shiftUp__a8 _ _ _ _ hb) (fun _ h112 => Ey_oc (k7_y_X10_shiftUp__a9 _ _ _ _ h112) (fun _ h113 => ih _ _ _ h113))
    | 9 =>
      refine Ey_eq (by rw [y_X10_divideLimbs]) ?_
      exact Ey_ite (ih _ _ _ hb) (Ey_oc (k7_y_X10_quotientDigit _ _ _ _ hb) (fun _ h114 => Ey_ite (ih _ _ _ (uA_K7 (by decide) h114)) (Ey_no)))
    | 10 =>
      refine Ey_eq (by rw [y_X10_divideLimbs]) ?_
      exact Ey_oc (k7_y_X10_shiftDown__a8 _ _ _ _ hb) (fun _ h115 => ih _ _ _ h115)
    | 11 =>
      refine Ey_eq (by rw [y_X10_divideLimbs]) ?_
      exact Ey_ite (ih _ _ _ hb) (Ey_ite (Ey_ite (ih _ _ _ hb) (ih _ _ _ hb)) (Ey_no))
    | 12 =>
      refine Ey_eq (by rw [y_X10_divideLimbs]) ?_
      exact Ey_so hb
    | 13 =>
      refine Ey_eq (by rw [y_X10_divideLimbs]) ?_
      exact ih _ _ _ hb
    | 14 =>
      refine Ey_eq (by rw [y_X10_divideLimbs]) ?_
      exact ih _ _ _ hb
    | b + 15 =>
      exact Ey_eq (by rw [y_X10_divideLimbs]) Ey_no
theorem k7_y_X10_unpackRest : ∀ (k b : Nat) (L : LV) (σ : CS), K7 w σ → Ey w (y_X10_unpackRest k b L σ) := by
  intro k
  induction k with
  | zero => intro b L σ _; exact Ey_no
  | succ k ih =>
    intro b L σ hb
    match b with
    | 0 =>
      refine Ey_eq (by rw [y_X10_unpackRest]) ?_
      exact ih _ _ _ hb
    | 1 =>
      refine Ey_eq (by rw [y_X10_unpackRest]) ?_
      exact Ey_ite (ih _ _ _ hb) (Ey_ite (Ey_ite (Ey_ite (ih _ _ _ (uA_K7 (by decide) hb)) (Ey_no)) (Ey_no)) (Ey_no))
    | 2 =>
      refine Ey_eq (by rw [y_X10_unpackRest]) ?_
      exact Ey_so hb
    | b + 3 =>
      exact Ey_eq (by rw [y_X10_unpackRest]) Ey_no
theorem k7_y_X10_restLimbs : ∀ (k b : Nat) (L : LV) (σ : CS), K7 w σ → Ey w (y_X10_restLimbs k b L σ) := by
  intro k
  induction k with
  | zero => intro b L σ _; exact Ey_no
  | succ k ih =>
    intro b L σ hb
    match b with
    | 0 =>
      refine Ey_eq (by rw [y_X10_restLimbs]) ?_
      exact ih _ _ _ hb
    | 1 =>
      refine Ey_eq (by rw [y_X10_restLimbs]) ?_
      exact Ey_ite (ih _ _ _ hb) (Ey_ite (Ey_ite (ih _ _ _ hb) (ih _ _ _ hb)) (Ey_no))
    | 2 =>
      refine Ey_eq (by rw [y_X10_restLimbs]) ?_
      exact Ey_so hb
    | b + 3 =>
      exact Ey_eq (by rw [y_X10_restLimbs]) Ey_no
theorem k7_y_X10_unpackQuotient : ∀ (k b : Nat) (L : LV) (σ : CS), K7 w σ → Ey w (y_X10_unpackQuotient k b L σ) := by
  intro k
  induction k with
  | zero => intro b L σ _; exact Ey_no
  | succ k ih =>
    intro b L σ hb
    match b with
    | 0 =>
      refine Ey_eq (by rw [y_X10_unpackQuotient]) ?_
      exact ih _ _ _ hb
    | 1 =>
      refine Ey_eq (by rw [y_X10_unpackQuotient]) ?_
      exact Ey_ite (ih _ _ _ hb) (Ey_ite (Ey_ite (Ey_ite (ih _ _ _ (uA_K7 (by decide) hb)) (Ey_no)) (Ey_no)) (Ey_no))
    | 2 =>
      refine Ey_eq (by rw [y_X10_unpackQuotient]) ?_
      exact Ey_so hb
    | b + 3 =>
      exact Ey_eq (by rw [y_X10_unpackQuotient]) Ey_no
theorem k7_y_X10_addOne : ∀ (k b : Nat) (L : LV) (σ : CS), K7 w σ → Ey w (y_X10_addOne k b L σ) := by
  intro k
  induction k with
  | zero => intro b L σ _; exact Ey_no
  | succ k ih =>
    intro b L σ hb
    match b with
    | 0 =>
      refine Ey_eq (by rw [y_X10_addOne]) ?_
      exact ih _ _ _ hb
    | 1 =>
      refine Ey_eq (by rw [y_X10_addOne]) ?_
      exact Ey_ite (ih _ _ _ hb) (Ey_ite (Ey_ite (Ey_ite (Ey_ite (ih _ _ _ (uA_K7 (by decide) hb)) (Ey_so (uA_K7 (by decide) hb))) (Ey_no)) (Ey_no)) (Ey_no))
    | 2 =>
      refine Ey_eq (by rw [y_X10_addOne]) ?_
      exact Ey_ite (Ey_so (uA_K7 (by decide) hb)) (Ey_no)
    | 3 =>
      refine Ey_eq (by rw [y_X10_addOne]) ?_
      exact ih _ _ _ hb
    | b + 4 =>
      exact Ey_eq (by rw [y_X10_addOne]) Ey_no
theorem k7_y_X10_divided : ∀ (k b : Nat) (L : LV) (σ : CS), K7 w σ → Ey w (y_X10_divided k b L σ) := by
  intro k
  induction k with
  | zero => intro b L σ _; exact Ey_no
  | succ k ih =>
    intro b L σ hb
    match b with
    | 0 =>
      refine Ey_eq (by rw [y_X10_divided]) ?_
      exact Ey_ite (Ey_so hb) (ih _ _ _ hb)
    | 1 =>
      refine Ey_eq (by rw [y_X10_divided]) ?_
      exact Ey_ite (ih _ _ _ hb) (Ey_ite (ih _ _ _ hb) (Ey_oc (k7_y_X10_number _ _ _ _ hb) (fun _ h116 => Ey_oc (k7_y_X10_number _ _ _ _ h116) (fun _ h117 => Ey_oc (k7_y_X10_dividedSmall _ _ _ _ h117) (fun _ h118 => Ey_so h118)))))
    | 2 =>
      refine Ey_eq (by rw [y_X10_divided]) ?_
      exact Ey_oc (k7_y_X10_load__a5 _ _ _ _ hb) (fun _ h119 => Ey_oc (k7_y_X10_load__a6 _ _ _ _ h119) (fun _ h120 => Ey_oc (k7_y_X10_isBelow _ _ _ _ h120) (fun _ h121 => Ey_oc (k7_y_X10_divideLimbs _ _ _ _ h121) (fun _ h122 => Ey_ite (ih _ _ _ h122) (ih _ _ _ h122)))))
    | 3 =>
      refine Ey_eq (by rw [y_X10_divided]) ?_
      exact ih _ _ _ hb
    | 4 =>
      refine Ey_eq (by rw [y_X10_divided]) ?_
      exact Ey_ite (ih _ _ _ hb) (Ey_oc (k7_y_X10_unpackRest _ _ _ _ hb) (fun _ h123 => Ey_ite (ih _ _ _ h123) (Ey_ite (ih _ _ _ h123) (ih _ _ _ h123))))
    | 5 =>
      refine Ey_eq (by rw [y_X10_divided]) ?_
      exact Ey_oc (k7_y_X10_unpackQuotient _ _ _ _ hb) (fun _ h124 => Ey_ite (ih _ _ _ h124) (Ey_ite (Ey_oc (k7_y_X10_addOne _ _ _ _ h124) (fun _ h125 => ih _ _ _ h125)) (ih _ _ _ h124)))
    | 6 =>
      refine Ey_eq (by rw [y_X10_divided]) ?_
      exact Ey_oc (k7_y_X10_made _ _ _ _ hb) (fun _ h126 => Ey_so h126)
    | 7 =>
      refine Ey_eq (by rw [y_X10_divided]) ?_
      exact Ey_ite (Ey_oc (k7_y_X10_load__a6 _ _ _ _ (uF_K7 (by decide) hb)) (fun _ h127 => Ey_oc (k7_y_X10_restLimbs _ _ _ _ h127) (fun _ h128 => Ey_oc (k7_y_X10_takeLimbs__a6__a5 _ _ _ _ h128) (fun _ h129 => Ey_oc (k7_y_X10_made _ _ _ _ h129) (fun _ h130 => Ey_so h130))))) (Ey_no)
    | 8 =>
      refine Ey_eq (by rw [y_X10_divided]) ?_
      exact Ey_oc (k7_y_X10_isBelow _ _ _ _ hb) (fun _ h131 => Ey_ite (ih _ _ _ h131) (ih _ _ _ h131))
    | 9 =>
      refine Ey_eq (by rw [y_X10_divided]) ?_
      exact ih _ _ _ hb
    | 10 =>
      refine Ey_eq (by rw [y_X10_divided]) ?_
      exact Ey_oc (k7_y_X10_made _ _ _ _ hb) (fun _ h132 => Ey_so h132)
    | b + 11 =>
      exact Ey_eq (by rw [y_X10_divided]) Ey_no
theorem k7_y_X11_isError : ∀ (k b : Nat) (L : LV) (σ : CS), K7 w σ → Ey w (y_X11_isError k b L σ) := by
  intro k
  induction k with
  | zero => intro b L σ _; exact Ey_no
  | succ k ih =>
    intro b L σ hb
    match b with
    | 0 =>
      refine Ey_eq (by rw [y_X11_isError]) ?_
      exact Ey_ite (ih _ _ _ hb) (ih _ _ _ hb)
    | 1 =>
      refine Ey_eq (by rw [y_X11_isError]) ?_
      exact ih _ _ _ hb
    | 2 =>
      refine Ey_eq (by rw [y_X11_isError]) ?_
      exact Ey_ite (Ey_so hb) (Ey_no)
    | b + 3 =>
      exact Ey_eq (by rw [y_X11_isError]) Ey_no
theorem k7_y_X10_power : ∀ (k b : Nat) (L : LV) (σ : CS), K7 w σ → Ey w (y_X10_power k b L σ) := by
  intro k
  induction k with
  | zero => intro b L σ _; exact Ey_no
  | succ k ih =>
    intro b L σ hb
    match b with
    | 0 =>
      refine Ey_eq (by rw [y_X10_power]) ?_
      exact Ey_oc (k7_y_X10_isBelow _ _ _ _ hb) (fun _ h133 => Ey_ite (ih _ _ _ h133) (Ey_so h133))
    | 1 =>
      refine Ey_eq (by rw [y_X10_power]) ?_
      exact Ey_ite (ih _ _ _ hb) (Ey_ite (ih _ _ _ hb) (ih _ _ _ hb))
    | 2 =>
      refine Ey_eq (by rw [y_X10_power]) ?_
      exact Ey_so hb
    | 3 =>
      refine Ey_eq (by rw [y_X10_power]) ?_
      exact Ey_ite (Ey_so hb) (ih _ _ _ hb)
    | 4 =>
      refine Ey_eq (by rw [y_X10_power]) ?_
      exact Ey_oc (k7_y_X10_small _ _ _ _ hb) (fun _ h134 => Ey_ite (Ey_ite (ih _ _ _ h134) (ih _ _ _ h134)) (ih _ _ _ h134))
    | 5 =>
      refine Ey_eq (by rw [y_X10_power]) ?_
      exact Ey_oc (k7_y_X10_clamped _ _ _ _ hb) (fun _ h135 => Ey_ite (ih _ _ _ h135) (Ey_so h135))
    | 6 =>
      refine Ey_eq (by rw [y_X10_power]) ?_
      exact Ey_ite (ih _ _ _ hb) (Ey_no)
    | 7 =>
      refine Ey_eq (by rw [y_X10_power]) ?_
      exact Ey_ite (ih _ _ _ hb) (ih _ _ _ hb)
    | 8 =>
      refine Ey_eq (by rw [y_X10_power]) ?_
      exact Ey_oc (k7_y_X10_number _ _ _ _ hb) (fun _ h136 => ih _ _ _ h136)
    | 9 =>
      refine Ey_eq (by rw [y_X10_power]) ?_
      exact ih _ _ _ hb
    | 10 =>
      refine Ey_eq (by rw [y_X10_power]) ?_
      exact Ey_so hb
    | 11 =>
      refine Ey_eq (by rw [y_X10_power]) ?_
      exact Ey_ite (ih _ _ _ hb) (Ey_oc (k7_y_X11_isError _ _ _ _ hb) (fun _ h137 => Ey_ite (Ey_oc (k7_y_X10_product _ _ _ _ h137) (fun _ h138 => Ey_oc (k7_y_X11_isError _ _ _ _ h138) (fun _ h139 => Ey_ite (Ey_ite (Ey_oc (k7_y_X10_product _ _ _ _ h139) (fun _ h140 => ih _ _ _ h140)) (ih _ _ _ h139)) (ih _ _ _ h139)))) (ih _ _ _ h137)))
    | 12 =>
      refine Ey_eq (by rw [y_X10_power]) ?_
      exact Ey_so hb
    | 13 =>
      refine Ey_eq (by rw [y_X10_power]) ?_
      exact ih _ _ _ hb
    | b + 14 =>
      exact Ey_eq (by rw [y_X10_power]) Ey_no
theorem k7_y_X11_truth : ∀ (k b : Nat) (L : LV) (σ : CS), K7 w σ → Ey w (y_X11_truth k b L σ) := by
  intro k
  induction k with
  | zero => intro b L σ _; exact Ey_no
  | succ k ih =>
    intro b L σ hb
    match b with
    | 0 =>
      refine Ey_eq (by rw [y_X11_truth]) ?_
      exact Ey_ite (ih _ _ _ hb) (ih _ _ _ hb)
    | 1 =>
      refine Ey_eq (by rw [y_X11_truth]) ?_
      exact ih _ _ _ hb
    | 2 =>
      refine Ey_eq (by rw [y_X11_truth]) ?_
      exact Ey_so hb
    | b + 3 =>
      exact Ey_eq (by rw [y_X11_truth]) Ey_no
theorem k7_y_X0_holds : ∀ (k b : Nat) (L : LV) (σ : CS), K7 w σ → Ey w (y_X0_holds k b L σ) := by
  intro k
  induction k with
  | zero => intro b L σ _; exact Ey_no
  | succ k ih =>
    intro b L σ hb
    match b with
    | 0 =>
      refine Ey_eq (by rw [y_X0_holds]) ?_
      exact Ey_oc (k7_y_X0_placeOf _ _ _ _ hb) (fun _ h141 => Ey_oc (k7_y_X1_length _ _ _ _ h141) (fun _ h142 => Ey_ite (ih _ _ _ h142) (Ey_oc (k7_y_X1_member _ _ _ _ h142) (fun _ h143 => Ey_oc (k7_y_X1_same _ _ _ _ h143) (fun _ h144 => Ey_ite (ih _ _ _ h144) (ih _ _ _ h144))))))
    | 1 =>
      refine Ey_eq (by rw [y_X0_holds]) ?_
      exact ih _ _ _ hb
    | 2 =>
      refine Ey_eq (by rw [y_X0_holds]) ?_
      exact Ey_ite (Ey_so hb) (Ey_no)
    | b + 3 =>
      exact Ey_eq (by rw [y_X0_holds]) Ey_no
theorem k7_y_X1_byteAt : ∀ (k b : Nat) (L : LV) (σ : CS), K7 w σ → Ey w (y_X1_byteAt k b L σ) := by
  intro k
  induction k with
  | zero => intro b L σ _; exact Ey_no
  | succ k ih =>
    intro b L σ hb
    match b with
    | 0 =>
      refine Ey_eq (by rw [y_X1_byteAt]) ?_
      exact Ey_ite (ih _ _ _ hb) (ih _ _ _ hb)
    | 1 =>
      refine Ey_eq (by rw [y_X1_byteAt]) ?_
      exact Ey_ite (ih _ _ _ hb) (Ey_no)
    | 2 =>
      refine Ey_eq (by rw [y_X1_byteAt]) ?_
      exact Ey_so hb
    | b + 3 =>
      exact Ey_eq (by rw [y_X1_byteAt]) Ey_no
theorem k7_y_X0_standsIn : ∀ (k b : Nat) (L : LV) (σ : CS), K7 w σ → Ey w (y_X0_standsIn k b L σ) := by
  intro k
  induction k with
  | zero => intro b L σ _; exact Ey_no
  | succ k ih =>
    intro b L σ hb
    match b with
    | 0 =>
      refine Ey_eq (by rw [y_X0_standsIn]) ?_
      exact Ey_oc (k7_y_X1_length _ _ _ _ hb) (fun _ h145 => Ey_oc (k7_y_X1_length _ _ _ _ h145) (fun _ h146 => ih _ _ _ h146))
    | 1 =>
      refine Ey_eq (by rw [y_X0_standsIn]) ?_
      exact Ey_ite (ih _ _ _ hb) (ih _ _ _ hb)
    | 2 =>
      refine Ey_eq (by rw [y_X0_standsIn]) ?_
      exact Ey_so hb
    | 3 =>
      refine Ey_eq (by rw [y_X0_standsIn]) ?_
      exact Ey_ite (ih _ _ _ hb) (Ey_oc (k7_y_X1_byteAt _ _ _ _ hb) (fun _ h147 => Ey_oc (k7_y_X1_byteAt _ _ _ _ h147) (fun _ h148 => Ey_ite (ih _ _ _ h148) (ih _ _ _ h148))))
    | 4 =>
      refine Ey_eq (by rw [y_X0_standsIn]) ?_
      exact Ey_ite (Ey_so hb) (ih _ _ _ hb)
    | 5 =>
      refine Ey_eq (by rw [y_X0_standsIn]) ?_
      exact ih _ _ _ hb
    | b + 6 =>
      exact Ey_eq (by rw [y_X0_standsIn]) Ey_no
theorem k7_y_X0_contains : ∀ (k b : Nat) (L : LV) (σ : CS), K7 w σ → Ey w (y_X0_contains k b L σ) := by
  intro k
  induction k with
  | zero => intro b L σ _; exact Ey_no
  | succ k ih =>
    intro b L σ hb
    match b with
    | 0 =>
      refine Ey_eq (by rw [y_X0_contains]) ?_
      exact Ey_oc (k7_y_X1_kind _ _ _ _ hb) (fun _ h149 => Ey_ite (ih _ _ _ h149) (Ey_ite (ih _ _ _ h149) (Ey_ite (ih _ _ _ h149) (ih _ _ _ h149))))
    | 1 =>
      refine Ey_eq (by rw [y_X0_contains]) ?_
      exact Ey_oc (k7_y_X1_kind _ _ _ _ hb) (fun _ h150 => Ey_ite (Ey_oc (k7_y_X0_standsIn _ _ _ _ h150) (fun _ h151 => Ey_oc (k7_y_X11_truth _ _ _ _ h151) (fun _ h152 => ih _ _ _ h152))) (ih _ _ _ h150))
    | 2 =>
      refine Ey_eq (by rw [y_X0_contains]) ?_
      exact ih _ _ _ hb
    | 3 =>
      refine Ey_eq (by rw [y_X0_contains]) ?_
      exact Ey_oc (k7_y_X0_holds _ _ _ _ hb) (fun _ h153 => Ey_oc (k7_y_X11_truth _ _ _ _ h153) (fun _ h154 => Ey_so h154))
    | 4 =>
      refine Ey_eq (by rw [y_X0_contains]) ?_
      exact Ey_so hb
    | 5 =>
      refine Ey_eq (by rw [y_X0_contains]) ?_
      exact ih _ _ _ hb
    | 6 =>
      refine Ey_eq (by rw [y_X0_contains]) ?_
      exact Ey_so hb
    | 7 =>
      refine Ey_eq (by rw [y_X0_contains]) ?_
      exact Ey_oc (k7_y_X1_length _ _ _ _ hb) (fun _ h155 => Ey_ite (ih _ _ _ h155) (Ey_ite (Ey_ite (ih _ _ _ h155) (Ey_oc (k7_y_X1_member _ _ _ _ h155) (fun _ h156 => Ey_oc (k7_y_X1_same _ _ _ _ h156) (fun _ h157 => ih _ _ _ h157)))) (ih _ _ _ h155)))
    | 8 =>
      refine Ey_eq (by rw [y_X0_contains]) ?_
      exact Ey_oc (k7_y_X11_truth _ _ _ _ hb) (fun _ h158 => Ey_so h158)
    | b + 9 =>
      exact Ey_eq (by rw [y_X0_contains]) Ey_no
theorem k7_y_X0_isSubset : ∀ (k b : Nat) (L : LV) (σ : CS), K7 w σ → Ey w (y_X0_isSubset k b L σ) := by
  intro k
  induction k with
  | zero => intro b L σ _; exact Ey_no
  | succ k ih =>
    intro b L σ hb
    match b with
    | 0 =>
      refine Ey_eq (by rw [y_X0_isSubset]) ?_
      exact Ey_oc (k7_y_X1_length _ _ _ _ hb) (fun _ h159 => Ey_oc (k7_y_X1_length _ _ _ _ h159) (fun _ h160 => Ey_ite (ih _ _ _ h160) (ih _ _ _ h160)))
    | 1 =>
      refine Ey_eq (by rw [y_X0_isSubset]) ?_
      exact ih _ _ _ hb
    | 2 =>
      refine Ey_eq (by rw [y_X0_isSubset]) ?_
      exact ih _ _ _ hb
    | 3 =>
      refine Ey_eq (by rw [y_X0_isSubset]) ?_
      exact Ey_oc (k7_y_X1_length _ _ _ _ hb) (fun _ h161 => Ey_ite (ih _ _ _ h161) (Ey_ite (ih _ _ _ h161) (Ey_oc (k7_y_X1_member _ _ _ _ h161) (fun _ h162 => Ey_oc (k7_y_X0_holds _ _ _ _ h162) (fun _ h163 => ih _ _ _ h163)))))
    | 4 =>
      refine Ey_eq (by rw [y_X0_isSubset]) ?_
      exact Ey_ite (Ey_so hb) (Ey_no)
    | b + 5 =>
      exact Ey_eq (by rw [y_X0_isSubset]) Ey_no
theorem k7_y_X0_compared : ∀ (k b : Nat) (L : LV) (σ : CS), K7 w σ → Ey w (y_X0_compared k b L σ) := by
  intro k
  induction k with
  | zero => intro b L σ _; exact Ey_no
  | succ k ih =>
    intro b L σ hb
    match b with
    | 0 =>
      refine Ey_eq (by rw [y_X0_compared]) ?_
      exact Ey_oc (k7_y_X1_kind _ _ _ _ hb) (fun _ h164 => Ey_oc (k7_y_X1_kind _ _ _ _ h164) (fun _ h165 => Ey_ite (Ey_ite (ih _ _ _ h165) (Ey_ite (ih _ _ _ h165) (ih _ _ _ h165))) (ih _ _ _ h165)))
    | 1 =>
      refine Ey_eq (by rw [y_X0_compared]) ?_
      exact Ey_so hb
    | 2 =>
      refine Ey_eq (by rw [y_X0_compared]) ?_
      exact Ey_oc (k7_y_X1_compare _ _ _ _ hb) (fun _ h166 => Ey_ite (ih _ _ _ h166) (Ey_ite (ih _ _ _ h166) (Ey_ite (ih _ _ _ h166) (ih _ _ _ h166))))
    | 3 =>
      refine Ey_eq (by rw [y_X0_compared]) ?_
      exact Ey_ite (ih _ _ _ hb) (ih _ _ _ hb)
    | 4 =>
      refine Ey_eq (by rw [y_X0_compared]) ?_
      exact Ey_ite (ih _ _ _ hb) (ih _ _ _ hb)
    | 5 =>
      refine Ey_eq (by rw [y_X0_compared]) ?_
      exact Ey_ite (ih _ _ _ hb) (ih _ _ _ hb)
    | 6 =>
      refine Ey_eq (by rw [y_X0_compared]) ?_
      exact Ey_ite (ih _ _ _ hb) (ih _ _ _ hb)
    | 7 =>
      refine Ey_eq (by rw [y_X0_compared]) ?_
      exact ih _ _ _ hb
    | 8 =>
      refine Ey_eq (by rw [y_X0_compared]) ?_
      exact Ey_oc (k7_y_X11_truth _ _ _ _ hb) (fun _ h167 => Ey_so h167)
    | 9 =>
      refine Ey_eq (by rw [y_X0_compared]) ?_
      exact ih _ _ _ hb
    | 10 =>
      refine Ey_eq (by rw [y_X0_compared]) ?_
      exact Ey_oc (k7_y_X11_truth _ _ _ _ hb) (fun _ h168 => Ey_so h168)
    | 11 =>
      refine Ey_eq (by rw [y_X0_compared]) ?_
      exact ih _ _ _ hb
    | 12 =>
      refine Ey_eq (by rw [y_X0_compared]) ?_
      exact Ey_oc (k7_y_X11_truth _ _ _ _ hb) (fun _ h169 => Ey_so h169)
    | 13 =>
      refine Ey_eq (by rw [y_X0_compared]) ?_
      exact ih _ _ _ hb
    | 14 =>
      refine Ey_eq (by rw [y_X0_compared]) ?_
      exact Ey_oc (k7_y_X11_truth _ _ _ _ hb) (fun _ h170 => Ey_so h170)
    | b + 15 =>
      exact Ey_eq (by rw [y_X0_compared]) Ey_no
theorem k7_y_X0_binary : ∀ (k b : Nat) (L : LV) (σ : CS), K7 w σ → Ey w (y_X0_binary k b L σ) := by
  intro k
  induction k with
  | zero => intro b L σ _; exact Ey_no
  | succ k ih =>
    intro b L σ hb
    match b with
    | 0 =>
      refine Ey_eq (by rw [y_X0_binary]) ?_
      exact Ey_ite (ih _ _ _ hb) (Ey_ite (ih _ _ _ hb) (Ey_ite (ih _ _ _ hb) (Ey_ite (ih _ _ _ hb) (Ey_ite (ih _ _ _ hb) (Ey_ite (ih _ _ _ hb) (Ey_ite (ih _ _ _ hb) (Ey_ite (ih _ _ _ hb) (Ey_ite (ih _ _ _ hb) (Ey_ite (ih _ _ _ hb) (Ey_ite (ih _ _ _ hb) (Ey_ite (ih _ _ _ hb) (Ey_ite (ih _ _ _ hb) (Ey_ite (ih _ _ _ hb) (Ey_ite (ih _ _ _ hb) (ih _ _ _ hb)))))))))))))))
    | 1 =>
      refine Ey_eq (by rw [y_X0_binary]) ?_
      exact Ey_oc (k7_y_X0_sum _ _ _ _ hb) (fun _ h171 => Ey_so h171)
    | 2 =>
      refine Ey_eq (by rw [y_X0_binary]) ?_
      exact Ey_oc (k7_y_X0_difference _ _ _ _ hb) (fun _ h172 => Ey_so h172)
    | 3 =>
      refine Ey_eq (by rw [y_X0_binary]) ?_
      exact Ey_oc (k7_y_X0_product _ _ _ _ hb) (fun _ h173 => Ey_so h173)
    | 4 =>
      refine Ey_eq (by rw [y_X0_binary]) ?_
      exact Ey_oc (k7_y_X0_areWholes _ _ _ _ hb) (fun _ h174 => Ey_ite (ih _ _ _ h174) (Ey_ite (ih _ _ _ h174) (ih _ _ _ h174)))
    | 5 =>
      refine Ey_eq (by rw [y_X0_binary]) ?_
      exact Ey_oc (k7_y_X0_areWholes _ _ _ _ hb) (fun _ h175 => Ey_ite (ih _ _ _ h175) (Ey_oc (k7_y_X10_power _ _ _ _ h175) (fun _ h176 => ih _ _ _ h176)))
    | 6 =>
      refine Ey_eq (by rw [y_X0_binary]) ?_
      exact Ey_oc (k7_y_X1_same _ _ _ _ hb) (fun _ h177 => Ey_oc (k7_y_X11_truth _ _ _ _ h177) (fun _ h178 => Ey_so h178))
    | 7 =>
      refine Ey_eq (by rw [y_X0_binary]) ?_
      exact Ey_oc (k7_y_X1_same _ _ _ _ hb) (fun _ h179 => Ey_ite (ih _ _ _ h179) (ih _ _ _ h179))
    | 8 =>
      refine Ey_eq (by rw [y_X0_binary]) ?_
      exact Ey_oc (k7_y_X0_compared _ _ _ _ hb) (fun _ h180 => Ey_so h180)
    | 9 =>
      refine Ey_eq (by rw [y_X0_binary]) ?_
      exact Ey_oc (k7_y_X0_contains _ _ _ _ hb) (fun _ h181 => Ey_so h181)
    | 10 =>
      refine Ey_eq (by rw [y_X0_binary]) ?_
      exact Ey_oc (k7_y_X0_contains _ _ _ _ hb) (fun _ h182 => Ey_oc (k7_y_X11_isError _ _ _ _ h182) (fun _ h183 => Ey_ite (ih _ _ _ h183) (ih _ _ _ h183)))
    | 11 =>
      refine Ey_eq (by rw [y_X0_binary]) ?_
      exact Ey_oc (k7_y_X0_areSets _ _ _ _ hb) (fun _ h184 => Ey_ite (ih _ _ _ h184) (Ey_oc (k7_y_X0_isSubset _ _ _ _ h184) (fun _ h185 => Ey_oc (k7_y_X11_truth _ _ _ _ h185) (fun _ h186 => ih _ _ _ h186))))
    | 12 =>
      refine Ey_eq (by rw [y_X0_binary]) ?_
      exact ih _ _ _ hb
    | 13 =>
      refine Ey_eq (by rw [y_X0_binary]) ?_
      exact ih _ _ _ hb
    | 14 =>
      refine Ey_eq (by rw [y_X0_binary]) ?_
      exact Ey_oc (k7_y_X10_divided _ _ _ _ hb) (fun _ h187 => ih _ _ _ h187)
    | 15 =>
      refine Ey_eq (by rw [y_X0_binary]) ?_
      exact ih _ _ _ hb
    | 16 =>
      refine Ey_eq (by rw [y_X0_binary]) ?_
      exact Ey_so hb
    | 17 =>
      refine Ey_eq (by rw [y_X0_binary]) ?_
      exact ih _ _ _ hb
    | 18 =>
      refine Ey_eq (by rw [y_X0_binary]) ?_
      exact Ey_oc (k7_y_X11_truth _ _ _ _ hb) (fun _ h188 => Ey_so h188)
    | 19 =>
      refine Ey_eq (by rw [y_X0_binary]) ?_
      exact Ey_ite (ih _ _ _ hb) (ih _ _ _ hb)
    | 20 =>
      refine Ey_eq (by rw [y_X0_binary]) ?_
      exact Ey_so hb
    | 21 =>
      refine Ey_eq (by rw [y_X0_binary]) ?_
      exact ih _ _ _ hb
    | 22 =>
      refine Ey_eq (by rw [y_X0_binary]) ?_
      exact Ey_so hb
    | 23 =>
      refine Ey_eq (by rw [y_X0_binary]) ?_
      exact Ey_so hb
    | 24 =>
      refine Ey_eq (by rw [y_X0_binary]) ?_
      exact ih _ _ _ hb
    | 25 =>
      refine Ey_eq (by rw [y_X0_binary]) ?_
      exact Ey_oc (k7_y_X11_truth _ _ _ _ hb) (fun _ h189 => ih _ _ _ h189)
    | b + 26 =>
      exact Ey_eq (by rw [y_X0_binary]) Ey_no
theorem k7_y_X1_size : ∀ (k b : Nat) (L : LV) (σ : CS), K7 w σ → Ey w (y_X1_size k b L σ) := by
  intro k
  induction k with
  | zero => intro b L σ _; exact Ey_no
  | succ k ih =>
    intro b L σ hb
    match b with
    | 0 =>
      refine Ey_eq (by rw [y_X1_size]) ?_
      exact Ey_ite (ih _ _ _ hb) (Ey_ite (Ey_so hb) (Ey_no))
    | 1 =>
      refine Ey_eq (by rw [y_X1_size]) ?_
      exact Ey_ite (ih _ _ _ hb) (Ey_ite (Ey_ite (ih _ _ _ hb) (ih _ _ _ hb)) (ih _ _ _ hb))
    | 2 =>
      refine Ey_eq (by rw [y_X1_size]) ?_
      exact ih _ _ _ hb
    | 3 =>
      refine Ey_eq (by rw [y_X1_size]) ?_
      exact ih _ _ _ hb
    | 4 =>
      refine Ey_eq (by rw [y_X1_size]) ?_
      exact Ey_so hb
    | b + 5 =>
      exact Ey_eq (by rw [y_X1_size]) Ey_no
theorem k7_y_X0_charOf : ∀ (k b : Nat) (L : LV) (σ : CS), K7 w σ → Ey w (y_X0_charOf k b L σ) := by
  intro k
  induction k with
  | zero => intro b L σ _; exact Ey_no
  | succ k ih =>
    intro b L σ hb
    match b with
    | 0 =>
      refine Ey_eq (by rw [y_X0_charOf]) ?_
      exact Ey_oc (k7_y_X10_clamped _ _ _ _ hb) (fun _ h190 => Ey_ite (ih _ _ _ h190) (Ey_ite (ih _ _ _ h190) (ih _ _ _ h190)))
    | 1 =>
      refine Ey_eq (by rw [y_X0_charOf]) ?_
      exact ih _ _ _ hb
    | 2 =>
      refine Ey_eq (by rw [y_X0_charOf]) ?_
      exact Ey_so hb
    | b + 3 =>
      exact Ey_eq (by rw [y_X0_charOf]) Ey_no
theorem k7_y_X0_codeOf : ∀ (k b : Nat) (L : LV) (σ : CS), K7 w σ → Ey w (y_X0_codeOf k b L σ) := by
  intro k
  induction k with
  | zero => intro b L σ _; exact Ey_no
  | succ k ih =>
    intro b L σ hb
    match b with
    | 0 =>
      refine Ey_eq (by rw [y_X0_codeOf]) ?_
      exact Ey_oc (k7_y_X1_length _ _ _ _ hb) (fun _ h191 => Ey_ite (Ey_oc (k7_y_X1_byteAt _ _ _ _ h191) (fun _ h192 => Ey_oc (k7_y_X10_small _ _ _ _ h192) (fun _ h193 => ih _ _ _ h193))) (ih _ _ _ h191))
    | 1 =>
      refine Ey_eq (by rw [y_X0_codeOf]) ?_
      exact ih _ _ _ hb
    | 2 =>
      refine Ey_eq (by rw [y_X0_codeOf]) ?_
      exact Ey_so hb
    | b + 3 =>
      exact Ey_eq (by rw [y_X0_codeOf]) Ey_no
theorem k7_y_X0_reversed : ∀ (k b : Nat) (L : LV) (σ : CS), K7 w σ → Ey w (y_X0_reversed k b L σ) := by
  intro k
  induction k with
  | zero => intro b L σ _; exact Ey_no
  | succ k ih =>
    intro b L σ hb
    match b with
    | 0 =>
      refine Ey_eq (by rw [y_X0_reversed]) ?_
      exact Ey_oc (k7_y_X1_length _ _ _ _ hb) (fun _ h194 => Ey_ite (ih _ _ _ h194) (ih _ _ _ h194))
    | 1 =>
      refine Ey_eq (by rw [y_X0_reversed]) ?_
      exact ih _ _ _ hb
    | 2 =>
      refine Ey_eq (by rw [y_X0_reversed]) ?_
      exact Ey_ite (ih _ _ _ hb) (Ey_ite (ih _ _ _ hb) (Ey_oc (k7_y_X1_byteAt _ _ _ _ hb) (fun _ h195 => Ey_ite (ih _ _ _ (uA_K7 (by decide) h195)) (Ey_no))))
    | 3 =>
      refine Ey_eq (by rw [y_X0_reversed]) ?_
      exact Ey_ite (ih _ _ _ hb) (Ey_ite (ih _ _ _ hb) (Ey_oc (k7_y_X1_member _ _ _ _ hb) (fun _ h196 => Ey_ite (ih _ _ _ (uA_K7 (by decide) h196)) (Ey_no))))
    | 4 =>
      refine Ey_eq (by rw [y_X0_reversed]) ?_
      exact Ey_oc (k7_y_X1_makeString__a15 _ _ _ _ hb) (fun _ h197 => Ey_so h197)
    | 5 =>
      refine Ey_eq (by rw [y_X0_reversed]) ?_
      exact Ey_oc (k7_y_X1_makeTuple__a16 _ _ _ _ hb) (fun _ h198 => Ey_so h198)
    | b + 6 =>
      exact Ey_eq (by rw [y_X0_reversed]) Ey_no
theorem k7_y_X0_domain : ∀ (k b : Nat) (L : LV) (σ : CS), K7 w σ → Ey w (y_X0_domain k b L σ) := by
  intro k
  induction k with
  | zero => intro b L σ _; exact Ey_no
  | succ k ih =>
    intro b L σ hb
    match b with
    | 0 =>
      refine Ey_eq (by rw [y_X0_domain]) ?_
      exact ih _ _ _ hb
    | 1 =>
      refine Ey_eq (by rw [y_X0_domain]) ?_
      exact Ey_oc (k7_y_X1_length _ _ _ _ hb) (fun _ h199 => Ey_ite (ih _ _ _ h199) (Ey_ite (ih _ _ _ h199) (Ey_oc (k7_y_X1_member _ _ _ _ h199) (fun _ h200 => Ey_oc (k7_y_X1_member _ _ _ _ h200) (fun _ h201 => Ey_ite (Ey_so h201) (ih _ _ _ h201))))))
    | 2 =>
      refine Ey_eq (by rw [y_X0_domain]) ?_
      exact Ey_oc (k7_y_X1_makeRow__a16 _ _ _ _ hb) (fun _ h202 => Ey_so h202)
    | 3 =>
      refine Ey_eq (by rw [y_X0_domain]) ?_
      exact Ey_ite (ih _ _ _ hb) (Ey_ite (Ey_oc (k7_y_X1_same _ _ _ _ hb) (fun _ h203 => Ey_ite (ih _ _ _ h203) (ih _ _ _ h203))) (Ey_no))
    | 4 =>
      refine Ey_eq (by rw [y_X0_domain]) ?_
      exact Ey_ite (ih _ _ _ (uA_K7 (by decide) hb)) (Ey_no)
    | 5 =>
      refine Ey_eq (by rw [y_X0_domain]) ?_
      exact ih _ _ _ hb
    | b + 6 =>
      exact Ey_eq (by rw [y_X0_domain]) Ey_no
theorem k7_y_X0_insert__a16 : ∀ (k b : Nat) (L : LV) (σ : CS), K7 w σ → Ey w (y_X0_insert__a16 k b L σ) := by
  intro k
  induction k with
  | zero => intro b L σ _; exact Ey_no
  | succ k ih =>
    intro b L σ hb
    match b with
    | 0 =>
      refine Ey_eq (by rw [y_X0_insert__a16]) ?_
      exact Ey_ite (ih _ _ _ hb) (Ey_ite (Ey_oc (k7_y_X1_compare _ _ _ _ hb) (fun _ h204 => Ey_ite (ih _ _ _ h204) (ih _ _ _ h204))) (Ey_no))
    | 1 =>
      refine Ey_eq (by rw [y_X0_insert__a16]) ?_
      exact ih _ _ _ hb
    | 2 =>
      refine Ey_eq (by rw [y_X0_insert__a16]) ?_
      exact Ey_ite (ih _ _ _ hb) (Ey_ite (ih _ _ _ hb) (Ey_ite (Ey_oc (k7_y_X1_compare _ _ _ _ hb) (fun _ h205 => Ey_ite (ih _ _ _ h205) (ih _ _ _ h205))) (Ey_no)))
    | 3 =>
      refine Ey_eq (by rw [y_X0_insert__a16]) ?_
      exact Ey_ite (ih _ _ _ hb) (Ey_ite (Ey_oc (k7_y_X1_same _ _ _ _ hb) (fun _ h206 => Ey_ite (ih _ _ _ h206) (Ey_so h206))) (Ey_no))
    | 4 =>
      refine Ey_eq (by rw [y_X0_insert__a16]) ?_
      exact ih _ _ _ hb
    | 5 =>
      refine Ey_eq (by rw [y_X0_insert__a16]) ?_
      exact ih _ _ _ hb
    | 6 =>
      refine Ey_eq (by rw [y_X0_insert__a16]) ?_
      exact Ey_ite (Ey_ite (Ey_so (uA_K7 (by decide) (uF_K7 (by decide) hb))) (Ey_no)) (Ey_no)
    | b + 7 =>
      exact Ey_eq (by rw [y_X0_insert__a16]) Ey_no
theorem k7_y_X0_range : ∀ (k b : Nat) (L : LV) (σ : CS), K7 w σ → Ey w (y_X0_range k b L σ) := by
  intro k
  induction k with
  | zero => intro b L σ _; exact Ey_no
  | succ k ih =>
    intro b L σ hb
    match b with
    | 0 =>
      refine Ey_eq (by rw [y_X0_range]) ?_
      exact ih _ _ _ hb
    | 1 =>
      refine Ey_eq (by rw [y_X0_range]) ?_
      exact Ey_oc (k7_y_X1_length _ _ _ _ hb) (fun _ h207 => Ey_ite (ih _ _ _ h207) (Ey_ite (ih _ _ _ h207) (Ey_oc (k7_y_X1_member _ _ _ _ h207) (fun _ h208 => Ey_oc (k7_y_X1_member _ _ _ _ h208) (fun _ h209 => Ey_oc (k7_y_X0_insert__a16 _ _ _ _ h209) (fun _ h210 => Ey_ite (ih _ _ _ h210) (ih _ _ _ h210)))))))
    | 2 =>
      refine Ey_eq (by rw [y_X0_range]) ?_
      exact Ey_oc (k7_y_X1_makeRow__a16 _ _ _ _ hb) (fun _ h211 => Ey_so h211)
    | 3 =>
      refine Ey_eq (by rw [y_X0_range]) ?_
      exact ih _ _ _ hb
    | b + 4 =>
      exact Ey_eq (by rw [y_X0_range]) Ey_no
theorem k7_y_X0_highest : ∀ (k b : Nat) (L : LV) (σ : CS), K7 w σ → Ey w (y_X0_highest k b L σ) := by
  intro k
  induction k with
  | zero => intro b L σ _; exact Ey_no
  | succ k ih =>
    intro b L σ hb
    match b with
    | 0 =>
      refine Ey_eq (by rw [y_X0_highest]) ?_
      exact ih _ _ _ hb
    | 1 =>
      refine Ey_eq (by rw [y_X0_highest]) ?_
      exact Ey_ite (ih _ _ _ hb) (Ey_ite (ih _ _ _ hb) (ih _ _ _ hb))
    | 2 =>
      refine Ey_eq (by rw [y_X0_highest]) ?_
      exact Ey_so hb
    | 3 =>
      refine Ey_eq (by rw [y_X0_highest]) ?_
      exact ih _ _ _ hb
    | 4 =>
      refine Ey_eq (by rw [y_X0_highest]) ?_
      exact ih _ _ _ hb
    | b + 5 =>
      exact Ey_eq (by rw [y_X0_highest]) Ey_no
theorem k7_y_X1_makeRow__a17 : ∀ (k b : Nat) (L : LV) (σ : CS), K7 w σ → Ey w (y_X1_makeRow__a17 k b L σ) := by
  intro k
  induction k with
  | zero => intro b L σ _; exact Ey_no
  | succ k ih =>
    intro b L σ hb
    match b with
    | 0 =>
      refine Ey_eq (by rw [y_X1_makeRow__a17]) ?_
      exact Ey_ite (ih _ _ _ hb) (Ey_ite (ih _ _ _ hb) (ih _ _ _ hb))
    | 1 =>
      refine Ey_eq (by rw [y_X1_makeRow__a17]) ?_
      exact Ey_ite (ih _ _ _ hb) (ih _ _ _ hb)
    | 2 =>
      refine Ey_eq (by rw [y_X1_makeRow__a17]) ?_
      exact ih _ _ _ hb
    | 3 =>
      refine Ey_eq (by rw [y_X1_makeRow__a17]) ?_
      exact Ey_so hb
    | 4 =>
      refine Ey_eq (by rw [y_X1_makeRow__a17]) ?_
      exact ih _ _ _ hb
    | 5 =>
      refine Ey_eq (by rw [y_X1_makeRow__a17]) ?_
      exact ih _ _ _ hb
    | 6 =>
      refine Ey_eq (by rw [y_X1_makeRow__a17]) ?_
      exact Ey_ite (ih _ _ _ hb) (Ey_ite (ih _ _ _ hb) (Ey_ite (Ey_ite (ih _ _ _ hb) (Ey_ite (Ey_ite (ih _ _ _ hb) (ih _ _ _ hb)) (Ey_no))) (Ey_no)))
    | 7 =>
      refine Ey_eq (by rw [y_X1_makeRow__a17]) ?_
      exact Ey_ite (ih _ _ _ hb) (Ey_ite (ih _ _ _ hb) (ih _ _ _ hb))
    | 8 =>
      refine Ey_eq (by rw [y_X1_makeRow__a17]) ?_
      exact Ey_ite (ih _ _ _ hb) (Ey_ite (Ey_ite (ih _ _ _ hb) (ih _ _ _ hb)) (ih _ _ _ hb))
    | 9 =>
      refine Ey_eq (by rw [y_X1_makeRow__a17]) ?_
      exact ih _ _ _ hb
    | 10 =>
      refine Ey_eq (by rw [y_X1_makeRow__a17]) ?_
      exact Ey_ite (ih _ _ _ hb) (Ey_ite (ih _ _ _ hb) (ih _ _ _ hb))
    | 11 =>
      refine Ey_eq (by rw [y_X1_makeRow__a17]) ?_
      exact Ey_so hb
    | 12 =>
      refine Ey_eq (by rw [y_X1_makeRow__a17]) ?_
      exact Ey_ite (ih _ _ _ hb) (Ey_so hb)
    | 13 =>
      refine Ey_eq (by rw [y_X1_makeRow__a17]) ?_
      exact ih _ _ _ hb
    | 14 =>
      refine Ey_eq (by rw [y_X1_makeRow__a17]) ?_
      exact ih _ _ _ hb
    | 15 =>
      refine Ey_eq (by rw [y_X1_makeRow__a17]) ?_
      exact ih _ _ _ hb
    | 16 =>
      refine Ey_eq (by rw [y_X1_makeRow__a17]) ?_
      exact ih _ _ _ hb
    | 17 =>
      refine Ey_eq (by rw [y_X1_makeRow__a17]) ?_
      exact Ey_ite (ih _ _ _ (uI_K7 (by decide) hb)) (ih _ _ _ (uI_K7 (by decide) hb))
    | 18 =>
      refine Ey_eq (by rw [y_X1_makeRow__a17]) ?_
      exact ih _ _ _ hb
    | 19 =>
      refine Ey_eq (by rw [y_X1_makeRow__a17]) ?_
      exact ih _ _ _ hb
    | 20 =>
      refine Ey_eq (by rw [y_X1_makeRow__a17]) ?_
      exact ih _ _ _ hb
    | 21 =>
      refine Ey_eq (by rw [y_X1_makeRow__a17]) ?_
      exact Ey_ite (Ey_ite (Ey_so (uF_K7 (by decide) (uA_K7 (by decide) hb))) (Ey_no)) (Ey_no)
    | b + 22 =>
      exact Ey_eq (by rw [y_X1_makeRow__a17]) Ey_no
theorem k7_y_X0_subsets : ∀ (k b : Nat) (L : LV) (σ : CS), K7 w σ → Ey w (y_X0_subsets k b L σ) := by
  intro k
  induction k with
  | zero => intro b L σ _; exact Ey_no
  | succ k ih =>
    intro b L σ hb
    match b with
    | 0 =>
      refine Ey_eq (by rw [y_X0_subsets]) ?_
      exact Ey_oc (k7_y_X1_length _ _ _ _ hb) (fun _ h212 => Ey_ite (ih _ _ _ h212) (Ey_oc (k7_y_X1_size _ _ _ _ h212) (fun _ h213 => Ey_ite (ih _ _ _ h213) (ih _ _ _ h213))))
    | 1 =>
      refine Ey_eq (by rw [y_X0_subsets]) ?_
      exact Ey_so hb
    | 2 =>
      refine Ey_eq (by rw [y_X0_subsets]) ?_
      exact Ey_ite (ih _ _ _ (uA_K7 (by decide) hb)) (Ey_no)
    | 3 =>
      refine Ey_eq (by rw [y_X0_subsets]) ?_
      exact Ey_ite (ih _ _ _ hb) (Ey_ite (Ey_oc (k7_y_X0_highest _ _ _ _ hb) (fun _ h214 => ih _ _ _ h214)) (ih _ _ _ hb))
    | 4 =>
      refine Ey_eq (by rw [y_X0_subsets]) ?_
      exact Ey_oc (k7_y_X1_makeRow__a16 _ _ _ _ hb) (fun _ h215 => Ey_so h215)
    | 5 =>
      refine Ey_eq (by rw [y_X0_subsets]) ?_
      exact Ey_oc (k7_y_X1_member _ _ _ _ hb) (fun _ h216 => Ey_ite (Ey_oc (k7_y_X1_makeRow__a17 _ _ _ _ (uA_K7 (by decide) h216)) (fun _ h217 => Ey_ite (Ey_ite (Ey_oc (k7_y_X11_isError _ _ _ _ (uA_K7 (by decide) h217)) (fun _ h218 => ih _ _ _ h218)) (Ey_no)) (Ey_no))) (Ey_no))
    | 6 =>
      refine Ey_eq (by rw [y_X0_subsets]) ?_
      exact Ey_ite (ih _ _ _ hb) (Ey_ite (Ey_so hb) (Ey_no))
    | 7 =>
      refine Ey_eq (by rw [y_X0_subsets]) ?_
      exact ih _ _ _ hb
    | b + 8 =>
      exact Ey_eq (by rw [y_X0_subsets]) Ey_no
theorem k7_y_X0_larger : ∀ (k b : Nat) (L : LV) (σ : CS), K7 w σ → Ey w (y_X0_larger k b L σ) := by
  intro k
  induction k with
  | zero => intro b L σ _; exact Ey_no
  | succ k ih =>
    intro b L σ hb
    match b with
    | 0 =>
      refine Ey_eq (by rw [y_X0_larger]) ?_
      exact Ey_oc (k7_y_X0_compared _ _ _ _ hb) (fun _ h219 => Ey_oc (k7_y_X11_isError _ _ _ _ h219) (fun _ h220 => Ey_ite (ih _ _ _ h220) (Ey_so h220)))
    | 1 =>
      refine Ey_eq (by rw [y_X0_larger]) ?_
      exact Ey_ite (ih _ _ _ hb) (ih _ _ _ hb)
    | 2 =>
      refine Ey_eq (by rw [y_X0_larger]) ?_
      exact ih _ _ _ hb
    | 3 =>
      refine Ey_eq (by rw [y_X0_larger]) ?_
      exact Ey_ite (ih _ _ _ hb) (ih _ _ _ hb)
    | 4 =>
      refine Ey_eq (by rw [y_X0_larger]) ?_
      exact ih _ _ _ hb
    | 5 =>
      refine Ey_eq (by rw [y_X0_larger]) ?_
      exact Ey_so hb
    | b + 6 =>
      exact Ey_eq (by rw [y_X0_larger]) Ey_no
theorem k7_y_X0_smallSteps : ∀ (k b : Nat) (L : LV) (σ : CS), K7 w σ → Ey w (y_X0_smallSteps k b L σ) := by
  intro k
  induction k with
  | zero => intro b L σ _; exact Ey_no
  | succ k ih =>
    intro b L σ hb
    match b with
    | 0 =>
      refine Ey_eq (by rw [y_X0_smallSteps]) ?_
      exact ih _ _ _ hb
    | 1 =>
      refine Ey_eq (by rw [y_X0_smallSteps]) ?_
      exact Ey_ite (ih _ _ _ hb) (Ey_ite (ih _ _ _ hb) (Ey_ite (ih _ _ _ hb) (Ey_ite (ih _ _ _ hb) (ih _ _ _ hb))))
    | 2 =>
      refine Ey_eq (by rw [y_X0_smallSteps]) ?_
      exact Ey_so hb
    | 3 =>
      refine Ey_eq (by rw [y_X0_smallSteps]) ?_
      exact Ey_ite (ih _ _ _ hb) (ih _ _ _ hb)
    | 4 =>
      refine Ey_eq (by rw [y_X0_smallSteps]) ?_
      exact Ey_oc (k7_y_X10_small _ _ _ _ hb) (fun _ h221 => Ey_ite (ih _ _ _ (uA_K7 (by decide) h221)) (Ey_no))
    | b + 5 =>
      exact Ey_eq (by rw [y_X0_smallSteps]) Ey_no
theorem k7_y_X0_progression : ∀ (k b : Nat) (L : LV) (σ : CS), K7 w σ → Ey w (y_X0_progression k b L σ) := by
  intro k
  induction k with
  | zero => intro b L σ _; exact Ey_no
  | succ k ih =>
    intro b L σ hb
    match b with
    | 0 =>
      refine Ey_eq (by rw [y_X0_progression]) ?_
      exact Ey_oc (k7_y_X0_areWholes _ _ _ _ hb) (fun _ h222 => Ey_ite (ih _ _ _ h222) (Ey_ite (ih _ _ _ h222) (Ey_oc (k7_y_X1_kind _ _ _ _ h222) (fun _ h223 => Ey_ite (ih _ _ _ h223) (ih _ _ _ h223)))))
    | 1 =>
      refine Ey_eq (by rw [y_X0_progression]) ?_
      exact Ey_so hb
    | 2 =>
      refine Ey_eq (by rw [y_X0_progression]) ?_
      exact Ey_ite (Ey_oc (k7_y_X10_added _ _ _ _ hb) (fun _ h224 => ih _ _ _ h224)) (ih _ _ _ hb)
    | 3 =>
      refine Ey_eq (by rw [y_X0_progression]) ?_
      exact ih _ _ _ hb
    | 4 =>
      refine Ey_eq (by rw [y_X0_progression]) ?_
      exact Ey_oc (k7_y_X11_isError _ _ _ _ hb) (fun _ h225 => Ey_ite (ih _ _ _ h225) (ih _ _ _ h225))
    | 5 =>
      refine Ey_eq (by rw [y_X0_progression]) ?_
      exact Ey_oc (k7_y_X1_compare _ _ _ _ hb) (fun _ h226 => ih _ _ _ h226)
    | 6 =>
      refine Ey_eq (by rw [y_X0_progression]) ?_
      exact Ey_oc (k7_y_X11_isError _ _ _ _ hb) (fun _ h227 => Ey_ite (ih _ _ _ h227) (ih _ _ _ h227))
    | 7 =>
      refine Ey_eq (by rw [y_X0_progression]) ?_
      exact Ey_oc (k7_y_X10_added _ _ _ _ hb) (fun _ h228 => ih _ _ _ h228)
    | 8 =>
      refine Ey_eq (by rw [y_X0_progression]) ?_
      exact Ey_ite (ih _ _ _ hb) (Ey_ite (ih _ _ _ hb) (Ey_ite (ih _ _ _ hb) (Ey_oc (k7_y_X11_isError _ _ _ _ hb) (fun _ h229 => Ey_ite (Ey_oc (k7_y_X10_number _ _ _ _ h229) (fun _ h230 => Ey_oc (k7_y_X10_number _ _ _ _ h230) (fun _ h231 => ih _ _ _ h231))) (ih _ _ _ h229)))))
    | 9 =>
      refine Ey_eq (by rw [y_X0_progression]) ?_
      exact ih _ _ _ hb
    | 10 =>
      refine Ey_eq (by rw [y_X0_progression]) ?_
      exact Ey_oc (k7_y_X10_number _ _ _ _ hb) (fun _ h232 => Ey_oc (k7_y_X0_smallSteps _ _ _ _ h232) (fun _ h233 => ih _ _ _ h233))
    | 11 =>
      refine Ey_eq (by rw [y_X0_progression]) ?_
      exact Ey_ite (ih _ _ _ hb) (Ey_ite (ih _ _ _ hb) (Ey_ite (ih _ _ _ hb) (Ey_oc (k7_y_X11_isError _ _ _ _ hb) (fun _ h234 => Ey_ite (Ey_oc (k7_y_X1_compare _ _ _ _ h234) (fun _ h235 => Ey_ite (ih _ _ _ h235) (Ey_oc (k7_y_X1_size _ _ _ _ h235) (fun _ h236 => Ey_ite (Ey_ite (ih _ _ _ (uA_K7 (by decide) h236)) (ih _ _ _ (uA_K7 (by decide) h236))) (Ey_no))))) (ih _ _ _ h234)))))
    | 12 =>
      refine Ey_eq (by rw [y_X0_progression]) ?_
      exact Ey_ite (ih _ _ _ hb) (Ey_so hb)
    | 13 =>
      refine Ey_eq (by rw [y_X0_progression]) ?_
      exact Ey_oc (k7_y_X11_isError _ _ _ _ hb) (fun _ h237 => Ey_ite (ih _ _ _ h237) (ih _ _ _ h237))
    | 14 =>
      refine Ey_eq (by rw [y_X0_progression]) ?_
      exact ih _ _ _ hb
    | 15 =>
      refine Ey_eq (by rw [y_X0_progression]) ?_
      exact Ey_ite (Ey_oc (k7_y_X1_makeTuple__a16 _ _ _ _ hb) (fun _ h238 => Ey_so h238)) (ih _ _ _ hb)
    | 16 =>
      refine Ey_eq (by rw [y_X0_progression]) ?_
      exact Ey_oc (k7_y_X10_added _ _ _ _ hb) (fun _ h239 => ih _ _ _ h239)
    | 17 =>
      refine Ey_eq (by rw [y_X0_progression]) ?_
      exact ih _ _ _ hb
    | 18 =>
      refine Ey_eq (by rw [y_X0_progression]) ?_
      exact Ey_ite (ih _ _ _ hb) (Ey_ite (Ey_no) (Ey_ite (ih _ _ _ hb) (Ey_ite (Ey_ite (Ey_ite (Ey_ite (ih _ _ _ (uA_K7 (by decide) (uA_K7 (by decide) hb))) (Ey_no)) (Ey_no)) (Ey_no)) (Ey_no))))
    | 19 =>
      refine Ey_eq (by rw [y_X0_progression]) ?_
      exact Ey_oc (k7_y_X1_makeRow__a16 _ _ _ _ hb) (fun _ h240 => Ey_so h240)
    | b + 20 =>
      exact Ey_eq (by rw [y_X0_progression]) Ey_no
theorem k7_y_X1_taken : ∀ (k b : Nat) (L : LV) (σ : CS), K7 w σ → Ey w (y_X1_taken k b L σ) := by
  intro k
  induction k with
  | zero => intro b L σ _; exact Ey_no
  | succ k ih =>
    intro b L σ hb
    match b with
    | 0 =>
      refine Ey_eq (by rw [y_X1_taken]) ?_
      exact Ey_oc (k7_y_X1_kind _ _ _ _ hb) (fun _ h241 => Ey_ite (Ey_oc (k7_y_X1_byteAt _ _ _ _ h241) (fun _ h242 => ih _ _ _ h242)) (ih _ _ _ h241))
    | 1 =>
      refine Ey_eq (by rw [y_X1_taken]) ?_
      exact Ey_oc (k7_y_X1_member _ _ _ _ hb) (fun _ h243 => ih _ _ _ h243)
    | 2 =>
      refine Ey_eq (by rw [y_X1_taken]) ?_
      exact Ey_so hb
    | b + 3 =>
      exact Ey_eq (by rw [y_X1_taken]) Ey_no
theorem k7_y_X1_flagged : ∀ (k b : Nat) (L : LV) (σ : CS), K7 w σ → Ey w (y_X1_flagged k b L σ) := by
  intro k
  induction k with
  | zero => intro b L σ _; exact Ey_no
  | succ k ih =>
    intro b L σ hb
    match b with
    | 0 =>
      refine Ey_eq (by rw [y_X1_flagged]) ?_
      exact Ey_ite (ih _ _ _ hb) (Ey_ite (Ey_ite (ih _ _ _ hb) (ih _ _ _ hb)) (Ey_no))
    | 1 =>
      refine Ey_eq (by rw [y_X1_flagged]) ?_
      exact ih _ _ _ hb
    | 2 =>
      refine Ey_eq (by rw [y_X1_flagged]) ?_
      exact Ey_ite (Ey_so hb) (Ey_no)
    | b + 3 =>
      exact Ey_eq (by rw [y_X1_flagged]) Ey_no
theorem k7_y_X1_isMap : ∀ (k b : Nat) (L : LV) (σ : CS), K7 w σ → Ey w (y_X1_isMap k b L σ) := by
  intro k
  induction k with
  | zero => intro b L σ _; exact Ey_no
  | succ k ih =>
    intro b L σ hb
    match b with
    | 0 =>
      refine Ey_eq (by rw [y_X1_isMap]) ?_
      exact Ey_oc (k7_y_X1_kind _ _ _ _ hb) (fun _ h244 => Ey_ite (Ey_oc (k7_y_X1_flagged _ _ _ _ h244) (fun _ h245 => Ey_ite (ih _ _ _ h245) (ih _ _ _ h245))) (ih _ _ _ h244))
    | 1 =>
      refine Ey_eq (by rw [y_X1_isMap]) ?_
      exact ih _ _ _ hb
    | 2 =>
      refine Ey_eq (by rw [y_X1_isMap]) ?_
      exact Ey_ite (Ey_so hb) (Ey_no)
    | b + 3 =>
      exact Ey_eq (by rw [y_X1_isMap]) Ey_no
theorem k7_y_X0_pairsFrom : ∀ (k b : Nat) (L : LV) (σ : CS), K7 w σ → Ey w (y_X0_pairsFrom k b L σ) := by
  intro k
  induction k with
  | zero => intro b L σ _; exact Ey_no
  | succ k ih =>
    intro b L σ hb
    match b with
    | 0 =>
      refine Ey_eq (by rw [y_X0_pairsFrom]) ?_
      exact Ey_oc (k7_y_X1_length _ _ _ _ hb) (fun _ h246 => ih _ _ _ h246)
    | 1 =>
      refine Ey_eq (by rw [y_X0_pairsFrom]) ?_
      exact Ey_ite (ih _ _ _ hb) (Ey_ite (ih _ _ _ hb) (Ey_oc (k7_y_X1_member _ _ _ _ hb) (fun _ h247 => Ey_oc (k7_y_X1_member _ _ _ _ h247) (fun _ h248 => Ey_oc (k7_y_X1_compare _ _ _ _ h248) (fun _ h249 => Ey_ite (ih _ _ _ h249) (ih _ _ _ h249))))))
    | 2 =>
      refine Ey_eq (by rw [y_X0_pairsFrom]) ?_
      exact Ey_so hb
    | 3 =>
      refine Ey_eq (by rw [y_X0_pairsFrom]) ?_
      exact ih _ _ _ hb
    | 4 =>
      refine Ey_eq (by rw [y_X0_pairsFrom]) ?_
      exact ih _ _ _ hb
    | b + 5 =>
      exact Ey_eq (by rw [y_X0_pairsFrom]) Ey_no
theorem k7_y_X0_pairsTo : ∀ (k b : Nat) (L : LV) (σ : CS), K7 w σ → Ey w (y_X0_pairsTo k b L σ) := by
  intro k
  induction k with
  | zero => intro b L σ _; exact Ey_no
  | succ k ih =>
    intro b L σ hb
    match b with
    | 0 =>
      refine Ey_eq (by rw [y_X0_pairsTo]) ?_
      exact ih _ _ _ hb
    | 1 =>
      refine Ey_eq (by rw [y_X0_pairsTo]) ?_
      exact Ey_oc (k7_y_X1_length _ _ _ _ hb) (fun _ h250 => Ey_ite (ih _ _ _ h250) (Ey_oc (k7_y_X1_member _ _ _ _ h250) (fun _ h251 => Ey_oc (k7_y_X1_member _ _ _ _ h251) (fun _ h252 => Ey_oc (k7_y_X1_compare _ _ _ _ h252) (fun _ h253 => Ey_ite (ih _ _ _ h253) (ih _ _ _ h253))))))
    | 2 =>
      refine Ey_eq (by rw [y_X0_pairsTo]) ?_
      exact Ey_so hb
    | b + 3 =>
      exact Ey_eq (by rw [y_X0_pairsTo]) Ey_no
theorem k7_y_X0_memberAt : ∀ (k b : Nat) (L : LV) (σ : CS), K7 w σ → Ey w (y_X0_memberAt k b L σ) := by
  intro k
  induction k with
  | zero => intro b L σ _; exact Ey_no
  | succ k ih =>
    intro b L σ hb
    match b with
    | 0 =>
      refine Ey_eq (by rw [y_X0_memberAt]) ?_
      exact Ey_oc (k7_y_X1_kind _ _ _ _ hb) (fun _ h254 => Ey_ite (ih _ _ _ h254) (Ey_ite (ih _ _ _ h254) (ih _ _ _ h254)))
    | 1 =>
      refine Ey_eq (by rw [y_X0_memberAt]) ?_
      exact Ey_oc (k7_y_X1_kind _ _ _ _ hb) (fun _ h255 => Ey_ite (ih _ _ _ h255) (Ey_so h255))
    | 2 =>
      refine Ey_eq (by rw [y_X0_memberAt]) ?_
      exact Ey_oc (k7_y_X1_isMap _ _ _ _ hb) (fun _ h256 => Ey_ite (Ey_so h256) (ih _ _ _ h256))
    | 3 =>
      refine Ey_eq (by rw [y_X0_memberAt]) ?_
      exact Ey_oc (k7_y_X10_clamped _ _ _ _ hb) (fun _ h257 => Ey_ite (ih _ _ _ h257) (Ey_so h257))
    | 4 =>
      refine Ey_eq (by rw [y_X0_memberAt]) ?_
      exact Ey_oc (k7_y_X0_pairsFrom _ _ _ _ hb) (fun _ h258 => Ey_oc (k7_y_X0_pairsTo _ _ _ _ h258) (fun _ h259 => Ey_ite (Ey_oc (k7_y_X1_member _ _ _ _ h259) (fun _ h260 => Ey_oc (k7_y_X1_member _ _ _ _ h260) (fun _ h261 => ih _ _ _ h261))) (ih _ _ _ h259)))
    | 5 =>
      refine Ey_eq (by rw [y_X0_memberAt]) ?_
      exact Ey_oc (k7_y_X1_length _ _ _ _ hb) (fun _ h262 => Ey_ite (ih _ _ _ h262) (Ey_oc (k7_y_X1_taken _ _ _ _ h262) (fun _ h263 => ih _ _ _ h263)))
    | 6 =>
      refine Ey_eq (by rw [y_X0_memberAt]) ?_
      exact ih _ _ _ hb
    | 7 =>
      refine Ey_eq (by rw [y_X0_memberAt]) ?_
      exact Ey_so hb
    | 8 =>
      refine Ey_eq (by rw [y_X0_memberAt]) ?_
      exact ih _ _ _ hb
    | 9 =>
      refine Ey_eq (by rw [y_X0_memberAt]) ?_
      exact Ey_so hb
    | b + 10 =>
      exact Ey_eq (by rw [y_X0_memberAt]) Ey_no
theorem k7_y_X0_rowError : ∀ (k b : Nat) (L : LV) (σ : CS), K7 w σ → Ey w (y_X0_rowError k b L σ) := by
  intro k
  induction k with
  | zero => intro b L σ _; exact Ey_no
  | succ k ih =>
    intro b L σ hb
    match b with
    | 0 =>
      refine Ey_eq (by rw [y_X0_rowError]) ?_
      exact Ey_oc (k7_y_X1_kind _ _ _ _ hb) (fun _ h264 => Ey_ite (ih _ _ _ h264) (Ey_ite (ih _ _ _ h264) (ih _ _ _ h264)))
    | 1 =>
      refine Ey_eq (by rw [y_X0_rowError]) ?_
      exact Ey_oc (k7_y_X1_kind _ _ _ _ hb) (fun _ h265 => Ey_ite (Ey_oc (k7_y_X1_kind _ _ _ _ h265) (fun _ h266 => Ey_ite (ih _ _ _ h266) (ih _ _ _ h266))) (ih _ _ _ h265))
    | 2 =>
      refine Ey_eq (by rw [y_X0_rowError]) ?_
      exact Ey_so hb
    | 3 =>
      refine Ey_eq (by rw [y_X0_rowError]) ?_
      exact Ey_oc (k7_y_X10_clamped _ _ _ _ hb) (fun _ h267 => Ey_oc (k7_y_X10_clamped _ _ _ _ h267) (fun _ h268 => Ey_ite (ih _ _ _ h268) (Ey_ite (ih _ _ _ h268) (Ey_oc (k7_y_X1_length _ _ _ _ h268) (fun _ h269 => Ey_ite (ih _ _ _ h269) (ih _ _ _ h269))))))
    | 4 =>
      refine Ey_eq (by rw [y_X0_rowError]) ?_
      exact ih _ _ _ hb
    | 5 =>
      refine Ey_eq (by rw [y_X0_rowError]) ?_
      exact Ey_so hb
    | b + 6 =>
      exact Ey_eq (by rw [y_X0_rowError]) Ey_no
theorem k7_y_X0_slice : ∀ (k b : Nat) (L : LV) (σ : CS), K7 w σ → Ey w (y_X0_slice k b L σ) := by
  intro k
  induction k with
  | zero => intro b L σ _; exact Ey_no
  | succ k ih =>
    intro b L σ hb
    match b with
    | 0 =>
      refine Ey_eq (by rw [y_X0_slice]) ?_
      exact Ey_oc (k7_y_X0_rowError _ _ _ _ hb) (fun _ h270 => Ey_ite (ih _ _ _ h270) (Ey_so h270))
    | 1 =>
      refine Ey_eq (by rw [y_X0_slice]) ?_
      exact Ey_oc (k7_y_X10_clamped _ _ _ _ hb) (fun _ h271 => Ey_oc (k7_y_X10_clamped _ _ _ _ h271) (fun _ h272 => Ey_oc (k7_y_X1_kind _ _ _ _ h272) (fun _ h273 => Ey_ite (Ey_oc (k7_y_X1_copyBytes__a15 _ _ _ _ h273) (fun _ h274 => Ey_oc (k7_y_X1_makeString__a15 _ _ _ _ h274) (fun _ h275 => Ey_so h275))) (ih _ _ _ h273))))
    | 2 =>
      refine Ey_eq (by rw [y_X0_slice]) ?_
      exact Ey_oc (k7_y_X0_load _ _ _ _ hb) (fun _ h276 => Ey_oc (k7_y_X1_makeTuple__a16 _ _ _ _ h276) (fun _ h277 => Ey_so h277))
    | b + 3 =>
      exact Ey_eq (by rw [y_X0_slice]) Ey_no
theorem k7_y_X0_images : ∀ (k b : Nat) (L : LV) (σ : CS), K7 w σ → Ey w (y_X0_images k b L σ) := by
  intro k
  induction k with
  | zero => intro b L σ _; exact Ey_no
  | succ k ih =>
    intro b L σ hb
    match b with
    | 0 =>
      refine Ey_eq (by rw [y_X0_images]) ?_
      exact Ey_oc (k7_y_X0_pairsFrom _ _ _ _ hb) (fun _ h278 => Ey_oc (k7_y_X0_pairsTo _ _ _ _ h278) (fun _ h279 => ih _ _ _ h279))
    | 1 =>
      refine Ey_eq (by rw [y_X0_images]) ?_
      exact Ey_ite (ih _ _ _ hb) (Ey_ite (ih _ _ _ hb) (Ey_oc (k7_y_X1_member _ _ _ _ hb) (fun _ h280 => Ey_oc (k7_y_X1_member _ _ _ _ h280) (fun _ h281 => Ey_ite (ih _ _ _ (uA_K7 (by decide) h281)) (Ey_no)))))
    | 2 =>
      refine Ey_eq (by rw [y_X0_images]) ?_
      exact Ey_oc (k7_y_X1_makeRow__a16 _ _ _ _ hb) (fun _ h282 => Ey_so h282)
    | b + 3 =>
      exact Ey_eq (by rw [y_X0_images]) Ey_no
theorem k7_y_X0_part : ∀ (k b : Nat) (L : LV) (σ : CS), K7 w σ → Ey w (y_X0_part k b L σ) := by
  intro k
  induction k with
  | zero => intro b L σ _; exact Ey_no
  | succ k ih =>
    intro b L σ hb
    match b with
    | 0 =>
      refine Ey_eq (by rw [y_X0_part]) ?_
      exact Ey_ite (ih _ _ _ hb) (Ey_ite (ih _ _ _ hb) (ih _ _ _ hb))
    | 1 =>
      refine Ey_eq (by rw [y_X0_part]) ?_
      exact Ey_oc (k7_y_X0_memberAt _ _ _ _ hb) (fun _ h283 => Ey_so h283)
    | 2 =>
      refine Ey_eq (by rw [y_X0_part]) ?_
      exact Ey_oc (k7_y_X0_slice _ _ _ _ hb) (fun _ h284 => Ey_so h284)
    | 3 =>
      refine Ey_eq (by rw [y_X0_part]) ?_
      exact Ey_oc (k7_y_X1_isMap _ _ _ _ hb) (fun _ h285 => Ey_ite (ih _ _ _ h285) (Ey_oc (k7_y_X0_images _ _ _ _ h285) (fun _ h286 => ih _ _ _ h286)))
    | 4 =>
      refine Ey_eq (by rw [y_X0_part]) ?_
      exact ih _ _ _ hb
    | 5 =>
      refine Ey_eq (by rw [y_X0_part]) ?_
      exact Ey_so hb
    | b + 6 =>
      exact Ey_eq (by rw [y_X0_part]) Ey_no
theorem k7_y_X0_pair : ∀ (k b : Nat) (L : LV) (σ : CS), K7 w σ → Ey w (y_X0_pair k b L σ) := by
  intro k
  induction k with
  | zero => intro b L σ _; exact Ey_no
  | succ k ih =>
    intro b L σ hb
    match b with
    | 0 =>
      refine Ey_eq (by rw [y_X0_pair]) ?_
      exact Ey_ite (Ey_ite (Ey_oc (k7_y_X1_makeRow__a17 _ _ _ _ (uA_K7 (by decide) (uA_K7 (by decide) hb))) (fun _ h287 => Ey_so h287)) (Ey_no)) (Ey_no)
    | b + 1 =>
      exact Ey_eq (by rw [y_X0_pair]) Ey_no
theorem k7_y_X0_withPair : ∀ (k b : Nat) (L : LV) (σ : CS), K7 w σ → Ey w (y_X0_withPair k b L σ) := by
  intro k
  induction k with
  | zero => intro b L σ _; exact Ey_no
  | succ k ih =>
    intro b L σ hb
    match b with
    | 0 =>
      refine Ey_eq (by rw [y_X0_withPair]) ?_
      exact Ey_oc (k7_y_X0_pairsFrom _ _ _ _ hb) (fun _ h288 => Ey_oc (k7_y_X0_pairsTo _ _ _ _ h288) (fun _ h289 => Ey_oc (k7_y_X0_load _ _ _ _ h289) (fun _ h290 => Ey_ite (ih _ _ _ h290) (Ey_oc (k7_y_X0_pair _ _ _ _ h290) (fun _ h291 => Ey_ite (Ey_ite (Ey_oc (k7_y_X11_isError _ _ _ _ (uA_K7 (by decide) h291)) (fun _ h292 => Ey_ite (ih _ _ _ h292) (Ey_ite (Ey_so h292) (Ey_no)))) (Ey_no)) (Ey_no))))))
    | 1 =>
      refine Ey_eq (by rw [y_X0_withPair]) ?_
      exact Ey_oc (k7_y_X1_length _ _ _ _ hb) (fun _ h293 => Ey_oc (k7_y_X0_load _ _ _ _ h293) (fun _ h294 => Ey_oc (k7_y_X1_makeRow__a16 _ _ _ _ h294) (fun _ h295 => Ey_so h295)))
    | 2 =>
      refine Ey_eq (by rw [y_X0_withPair]) ?_
      exact ih _ _ _ hb
    | b + 3 =>
      exact Ey_eq (by rw [y_X0_withPair]) Ey_no
theorem k7_y_X0_withMember : ∀ (k b : Nat) (L : LV) (σ : CS), K7 w σ → Ey w (y_X0_withMember k b L σ) := by
  intro k
  induction k with
  | zero => intro b L σ _; exact Ey_no
  | succ k ih =>
    intro b L σ hb
    match b with
    | 0 =>
      refine Ey_eq (by rw [y_X0_withMember]) ?_
      exact Ey_oc (k7_y_X1_kind _ _ _ _ hb) (fun _ h296 => Ey_ite (ih _ _ _ h296) (Ey_ite (Ey_oc (k7_y_X1_kind _ _ _ _ h296) (fun _ h297 => Ey_ite (Ey_oc (k7_y_X1_length _ _ _ _ h297) (fun _ h298 => Ey_ite (ih _ _ _ h298) (ih _ _ _ h298))) (ih _ _ _ h297))) (ih _ _ _ h296)))
    | 1 =>
      refine Ey_eq (by rw [y_X0_withMember]) ?_
      exact ih _ _ _ hb
    | 2 =>
      refine Ey_eq (by rw [y_X0_withMember]) ?_
      exact ih _ _ _ hb
    | 3 =>
      refine Ey_eq (by rw [y_X0_withMember]) ?_
      exact Ey_ite (ih _ _ _ hb) (Ey_oc (k7_y_X1_kind _ _ _ _ hb) (fun _ h299 => Ey_ite (ih _ _ _ h299) (ih _ _ _ h299)))
    | 4 =>
      refine Ey_eq (by rw [y_X0_withMember]) ?_
      exact Ey_so hb
    | 5 =>
      refine Ey_eq (by rw [y_X0_withMember]) ?_
      exact Ey_oc (k7_y_X10_clamped _ _ _ _ hb) (fun _ h300 => Ey_oc (k7_y_X1_length _ _ _ _ h300) (fun _ h301 => Ey_ite (ih _ _ _ h301) (Ey_ite (Ey_ite (ih _ _ _ h301) (ih _ _ _ h301)) (ih _ _ _ h301))))
    | 6 =>
      refine Ey_eq (by rw [y_X0_withMember]) ?_
      exact Ey_so hb
    | 7 =>
      refine Ey_eq (by rw [y_X0_withMember]) ?_
      exact Ey_ite (Ey_oc (k7_y_X1_copyBytes__a15 _ _ _ _ hb) (fun _ h302 => Ey_oc (k7_y_X1_byteAt _ _ _ _ h302) (fun _ h303 => Ey_ite (Ey_oc (k7_y_X1_makeString__a15 _ _ _ _ (uA_K7 (by decide) h303)) (fun _ h304 => Ey_so h304)) (Ey_no)))) (ih _ _ _ hb)
    | 8 =>
      refine Ey_eq (by rw [y_X0_withMember]) ?_
      exact Ey_ite (ih _ _ _ hb) (Ey_ite (Ey_so hb) (ih _ _ _ hb))
    | 9 =>
      refine Ey_eq (by rw [y_X0_withMember]) ?_
      exact Ey_ite (ih _ _ _ hb) (Ey_so hb)
    | 10 =>
      refine Ey_eq (by rw [y_X0_withMember]) ?_
      exact Ey_oc (k7_y_X0_load _ _ _ _ hb) (fun _ h305 => ih _ _ _ h305)
    | 11 =>
      refine Ey_eq (by rw [y_X0_withMember]) ?_
      exact Ey_ite (ih _ _ _ hb) (Ey_ite (ih _ _ _ (uA_K7 (by decide) hb)) (Ey_no))
    | 12 =>
      refine Ey_eq (by rw [y_X0_withMember]) ?_
      exact Ey_ite (Ey_oc (k7_y_X1_makeTuple__a16 _ _ _ _ (uA_K7 (by decide) hb)) (fun _ h306 => Ey_so h306)) (Ey_no)
    | b + 13 =>
      exact Ey_eq (by rw [y_X0_withMember]) Ey_no
theorem k7_y_X0_withSlice : ∀ (k b : Nat) (L : LV) (σ : CS), K7 w σ → Ey w (y_X0_withSlice k b L σ) := by
  intro k
  induction k with
  | zero => intro b L σ _; exact Ey_no
  | succ k ih =>
    intro b L σ hb
    match b with
    | 0 =>
      refine Ey_eq (by rw [y_X0_withSlice]) ?_
      exact Ey_oc (k7_y_X1_kind _ _ _ _ hb) (fun _ h307 => Ey_oc (k7_y_X1_kind _ _ _ _ h307) (fun _ h308 => Ey_ite (Ey_oc (k7_y_X0_rowError _ _ _ _ h308) (fun _ h309 => ih _ _ _ h309)) (ih _ _ _ h308)))
    | 1 =>
      refine Ey_eq (by rw [y_X0_withSlice]) ?_
      exact ih _ _ _ hb
    | 2 =>
      refine Ey_eq (by rw [y_X0_withSlice]) ?_
      exact Ey_ite (ih _ _ _ hb) (Ey_so hb)
    | 3 =>
      refine Ey_eq (by rw [y_X0_withSlice]) ?_
      exact Ey_oc (k7_y_X10_clamped _ _ _ _ hb) (fun _ h310 => Ey_oc (k7_y_X10_clamped _ _ _ _ h310) (fun _ h311 => Ey_oc (k7_y_X1_length _ _ _ _ h311) (fun _ h312 => Ey_oc (k7_y_X1_kind _ _ _ _ h312) (fun _ h313 => Ey_ite (Ey_oc (k7_y_X1_copyBytes__a15 _ _ _ _ h313) (fun _ h314 => Ey_oc (k7_y_X1_length _ _ _ _ h314) (fun _ h315 => Ey_oc (k7_y_X1_copyBytes__a15 _ _ _ _ h315) (fun _ h316 => Ey_oc (k7_y_X1_copyBytes__a15 _ _ _ _ h316) (fun _ h317 => Ey_oc (k7_y_X1_makeString__a15 _ _ _ _ h317) (fun _ h318 => Ey_so h318)))))) (ih _ _ _ h313)))))
    | 4 =>
      refine Ey_eq (by rw [y_X0_withSlice]) ?_
      exact Ey_oc (k7_y_X0_load _ _ _ _ hb) (fun _ h319 => Ey_oc (k7_y_X1_length _ _ _ _ h319) (fun _ h320 => Ey_oc (k7_y_X0_load _ _ _ _ h320) (fun _ h321 => Ey_oc (k7_y_X0_load _ _ _ _ h321) (fun _ h322 => Ey_oc (k7_y_X1_makeTuple__a16 _ _ _ _ h322) (fun _ h323 => Ey_so h323)))))
    | b + 5 =>
      exact Ey_eq (by rw [y_X0_withSlice]) Ey_no
theorem k7_y_X0_withImages : ∀ (k b : Nat) (L : LV) (σ : CS), K7 w σ → Ey w (y_X0_withImages k b L σ) := by
  intro k
  induction k with
  | zero => intro b L σ _; exact Ey_no
  | succ k ih =>
    intro b L σ hb
    match b with
    | 0 =>
      refine Ey_eq (by rw [y_X0_withImages]) ?_
      exact Ey_oc (k7_y_X0_pairsFrom _ _ _ _ hb) (fun _ h324 => Ey_oc (k7_y_X0_pairsTo _ _ _ _ h324) (fun _ h325 => Ey_oc (k7_y_X1_size _ _ _ _ h325) (fun _ h326 => Ey_oc (k7_y_X1_size _ _ _ _ h326) (fun _ h327 => Ey_oc (k7_y_X1_length _ _ _ _ h327) (fun _ h328 => Ey_oc (k7_y_X1_size _ _ _ _ h328) (fun _ h329 => ih _ _ _ h329))))))
    | 1 =>
      refine Ey_eq (by rw [y_X0_withImages]) ?_
      exact Ey_ite (ih _ _ _ hb) (Ey_oc (k7_y_X1_member _ _ _ _ hb) (fun _ h330 => Ey_oc (k7_y_X1_size _ _ _ _ h330) (fun _ h331 => ih _ _ _ h331)))
    | 2 =>
      refine Ey_eq (by rw [y_X0_withImages]) ?_
      exact Ey_ite (ih _ _ _ hb) (Ey_so hb)
    | 3 =>
      refine Ey_eq (by rw [y_X0_withImages]) ?_
      exact Ey_oc (k7_y_X0_load _ _ _ _ hb) (fun _ h332 => ih _ _ _ h332)
    | 4 =>
      refine Ey_eq (by rw [y_X0_withImages]) ?_
      exact Ey_oc (k7_y_X1_length _ _ _ _ hb) (fun _ h333 => Ey_ite (ih _ _ _ h333) (Ey_ite (ih _ _ _ h333) (Ey_oc (k7_y_X1_member _ _ _ _ h333) (fun _ h334 => Ey_oc (k7_y_X0_pair _ _ _ _ h334) (fun _ h335 => Ey_ite (Ey_ite (Ey_oc (k7_y_X11_isError _ _ _ _ (uA_K7 (by decide) h335)) (fun _ h336 => Ey_ite (ih _ _ _ h336) (Ey_ite (Ey_so h336) (Ey_no)))) (Ey_no)) (Ey_no))))))
    | 5 =>
      refine Ey_eq (by rw [y_X0_withImages]) ?_
      exact Ey_oc (k7_y_X1_length _ _ _ _ hb) (fun _ h337 => Ey_oc (k7_y_X0_load _ _ _ _ h337) (fun _ h338 => Ey_oc (k7_y_X1_makeRow__a16 _ _ _ _ h338) (fun _ h339 => Ey_so h339)))
    | 6 =>
      refine Ey_eq (by rw [y_X0_withImages]) ?_
      exact ih _ _ _ hb
    | b + 7 =>
      exact Ey_eq (by rw [y_X0_withImages]) Ey_no
theorem k7_y_X0_written : ∀ (k b : Nat) (L : LV) (σ : CS), K7 w σ → Ey w (y_X0_written k b L σ) := by
  intro k
  induction k with
  | zero => intro b L σ _; exact Ey_no
  | succ k ih =>
    intro b L σ hb
    match b with
    | 0 =>
      refine Ey_eq (by rw [y_X0_written]) ?_
      exact Ey_ite (ih _ _ _ hb) (Ey_ite (ih _ _ _ hb) (ih _ _ _ hb))
    | 1 =>
      refine Ey_eq (by rw [y_X0_written]) ?_
      exact Ey_oc (k7_y_X1_isMap _ _ _ _ hb) (fun _ h340 => Ey_ite (ih _ _ _ h340) (Ey_oc (k7_y_X0_withPair _ _ _ _ h340) (fun _ h341 => ih _ _ _ h341)))
    | 2 =>
      refine Ey_eq (by rw [y_X0_written]) ?_
      exact Ey_oc (k7_y_X0_withSlice _ _ _ _ hb) (fun _ h342 => Ey_so h342)
    | 3 =>
      refine Ey_eq (by rw [y_X0_written]) ?_
      exact Ey_oc (k7_y_X1_isMap _ _ _ _ hb) (fun _ h343 => Ey_ite (ih _ _ _ h343) (Ey_oc (k7_y_X1_kind _ _ _ _ h343) (fun _ h344 => Ey_ite (Ey_oc (k7_y_X0_withImages _ _ _ _ h344) (fun _ h345 => ih _ _ _ h345)) (ih _ _ _ h344))))
    | 4 =>
      refine Ey_eq (by rw [y_X0_written]) ?_
      exact Ey_oc (k7_y_X0_withMember _ _ _ _ hb) (fun _ h346 => ih _ _ _ h346)
    | 5 =>
      refine Ey_eq (by rw [y_X0_written]) ?_
      exact Ey_so hb
    | 6 =>
      refine Ey_eq (by rw [y_X0_written]) ?_
      exact ih _ _ _ hb
    | 7 =>
      refine Ey_eq (by rw [y_X0_written]) ?_
      exact Ey_so hb
    | b + 8 =>
      exact Ey_eq (by rw [y_X0_written]) Ey_no
theorem k7_y_X0_remainder : ∀ (k b : Nat) (L : LV) (σ : CS), K7 w σ → Ey w (y_X0_remainder k b L σ) := by
  intro k
  induction k with
  | zero => intro b L σ _; exact Ey_no
  | succ k ih =>
    intro b L σ hb
    match b with
    | 0 =>
      refine Ey_eq (by rw [y_X0_remainder]) ?_
      exact Ey_oc (k7_y_X1_length _ _ _ _ hb) (fun _ h347 => Ey_ite (ih _ _ _ h347) (ih _ _ _ h347))
    | 1 =>
      refine Ey_eq (by rw [y_X0_remainder]) ?_
      exact ih _ _ _ hb
    | 2 =>
      refine Ey_eq (by rw [y_X0_remainder]) ?_
      exact Ey_ite (ih _ _ _ hb) (ih _ _ _ hb)
    | 3 =>
      refine Ey_eq (by rw [y_X0_remainder]) ?_
      exact ih _ _ _ hb
    | 4 =>
      refine Ey_eq (by rw [y_X0_remainder]) ?_
      exact Ey_oc (k7_y_X1_kind _ _ _ _ hb) (fun _ h348 => Ey_ite (Ey_oc (k7_y_X1_copyBytes__a15 _ _ _ _ h348) (fun _ h349 => Ey_oc (k7_y_X1_makeString__a15 _ _ _ _ h349) (fun _ h350 => Ey_so h350))) (ih _ _ _ h348))
    | 5 =>
      refine Ey_eq (by rw [y_X0_remainder]) ?_
      exact Ey_oc (k7_y_X0_load _ _ _ _ hb) (fun _ h351 => Ey_ite (Ey_oc (k7_y_X1_makeRow__a16 _ _ _ _ h351) (fun _ h352 => ih _ _ _ h352)) (ih _ _ _ h351))
    | 6 =>
      refine Ey_eq (by rw [y_X0_remainder]) ?_
      exact Ey_oc (k7_y_X1_makeTuple__a16 _ _ _ _ hb) (fun _ h353 => ih _ _ _ h353)
    | 7 =>
      refine Ey_eq (by rw [y_X0_remainder]) ?_
      exact Ey_so hb
    | b + 8 =>
      exact Ey_eq (by rw [y_X0_remainder]) Ey_no
theorem k7_y_X1_wordsBehind : ∀ (k b : Nat) (L : LV) (σ : CS), K7 w σ → Ey w (y_X1_wordsBehind k b L σ) := by
  intro k
  induction k with
  | zero => intro b L σ _; exact Ey_no
  | succ k ih =>
    intro b L σ hb
    match b with
    | 0 =>
      refine Ey_eq (by rw [y_X1_wordsBehind]) ?_
      exact Ey_ite (ih _ _ _ hb) (ih _ _ _ hb)
    | 1 =>
      refine Ey_eq (by rw [y_X1_wordsBehind]) ?_
      exact ih _ _ _ hb
    | 2 =>
      refine Ey_eq (by rw [y_X1_wordsBehind]) ?_
      exact Ey_so hb
    | b + 3 =>
      exact Ey_eq (by rw [y_X1_wordsBehind]) Ey_no
theorem k7_y_X1_isTight : ∀ (k b : Nat) (L : LV) (σ : CS), K7 w σ → Ey w (y_X1_isTight k b L σ) := by
  intro k
  induction k with
  | zero => intro b L σ _; exact Ey_no
  | succ k ih =>
    intro b L σ hb
    match b with
    | 0 =>
      refine Ey_eq (by rw [y_X1_isTight]) ?_
      exact Ey_ite (ih _ _ _ hb) (ih _ _ _ hb)
    | 1 =>
      refine Ey_eq (by rw [y_X1_isTight]) ?_
      exact ih _ _ _ hb
    | 2 =>
      refine Ey_eq (by rw [y_X1_isTight]) ?_
      exact Ey_ite (Ey_so hb) (Ey_no)
    | b + 3 =>
      exact Ey_eq (by rw [y_X1_isTight]) Ey_no
theorem k7_y_X1_isScarce : ∀ (k b : Nat) (L : LV) (σ : CS), K7 w σ → Ey w (y_X1_isScarce k b L σ) := by
  intro k
  induction k with
  | zero => intro b L σ _; exact Ey_no
  | succ k ih =>
    intro b L σ hb
    match b with
    | 0 =>
      refine Ey_eq (by rw [y_X1_isScarce]) ?_
      exact Ey_ite (Ey_no) (Ey_ite (ih _ _ _ hb) (ih _ _ _ hb))
    | 1 =>
      refine Ey_eq (by rw [y_X1_isScarce]) ?_
      exact ih _ _ _ hb
    | 2 =>
      refine Ey_eq (by rw [y_X1_isScarce]) ?_
      exact Ey_ite (Ey_so hb) (Ey_no)
    | b + 3 =>
      exact Ey_eq (by rw [y_X1_isScarce]) Ey_no
theorem k7_y_J7_fill_53178__z1 : ∀ (k b : Nat) (L : LV) (σ : CS), K7 w σ → Ey w (y_J7_fill_53178__z1 k b L σ) := by
  intro k
  induction k with
  | zero => intro b L σ _; exact Ey_no
  | succ k ih =>
    intro b L σ hb
    match b with
    | 0 =>
      refine Ey_eq (by rw [y_J7_fill_53178__z1]) ?_
      exact ih _ _ _ hb
    | 1 =>
      refine Ey_eq (by rw [y_J7_fill_53178__z1]) ?_
      exact Ey_ite (ih _ _ _ hb) (Ey_ite (ih _ _ _ (uA_K7 (by decide) hb)) (Ey_no))
    | 2 =>
      refine Ey_eq (by rw [y_J7_fill_53178__z1]) ?_
      exact Ey_so hb
    | b + 3 =>
      exact Ey_eq (by rw [y_J7_fill_53178__z1]) Ey_no
theorem k7_y_X1_beginMarking : ∀ (k b : Nat) (L : LV) (σ : CS), K7 w σ → Ey w (y_X1_beginMarking k b L σ) := by
  intro k
  induction k with
  | zero => intro b L σ _; exact Ey_no
  | succ k ih =>
    intro b L σ hb
    match b with
    | 0 =>
      refine Ey_eq (by rw [y_X1_beginMarking]) ?_
      exact Ey_oc (k7_y_J7_fill_53178__z1 _ _ _ _ hb) (fun _ h354 => Ey_ite (Ey_so (uA_K7 (by decide) h354)) (Ey_no))
    | b + 1 =>
      exact Ey_eq (by rw [y_X1_beginMarking]) Ey_no
theorem k7_t_X1_markCell {X : Nat → Nat → Nat → LV → CS → Option (Int32 × CS)} (hX : ∀ e m b L (σ : CS), K7 w σ → Ey w (X e m b L σ)) (K d b : Nat) (L : LV) (σ : CS) (hb : K7 w σ) : Ey w (t_X1_markCell X K d b L σ) := by
  match b with
  | 0 => exact Ey_ite (Ey_ite (hX _ _ _ _ _ hb) (Ey_so hb)) (Ey_no)
  | 1 => exact Ey_ite (Ey_ite (Ey_ite (hX _ _ _ _ _ hb) (hX _ _ _ _ _ hb)) (Ey_no)) (Ey_no)
  | 2 => exact hX _ _ _ _ _ hb
  | 3 => exact hX _ _ _ _ _ hb
  | 4 => exact Ey_ite (hX _ _ _ _ _ hb) (Ey_ite (Ey_ite (hX _ _ _ _ _ (uA_K7 (by decide) hb)) (Ey_no)) (Ey_no))
  | 5 => exact hX _ _ _ _ _ hb
  | 6 => exact Ey_ite (hX _ _ _ _ _ hb) (Ey_ite (hX _ _ _ _ _ hb) (Ey_ite (Ey_ite (hX _ _ _ _ _ hb) (Ey_ite (Ey_oe (fun _ => Ey_oc (hX _ _ _ _ _ hb) (fun _ h355 => hX _ _ _ _ _ h355))) (Ey_no))) (Ey_no)))
  | 7 => exact Ey_so hb
  | 8 => exact hX _ _ _ _ _ hb
  | b + 9 => exact Ey_no
theorem k7_y_H2 : ∀ (k d m b : Nat) (L : LV) (σ : CS), K7 w σ → Ey w (y_H2 k d m b L σ) := by
  intro k
  induction k with
  | zero => intro d m b L σ _; exact Ey_no
  | succ k ih =>
    intro d m b L σ hb
    match m with
    | 0 => exact k7_t_X1_markCell ih k d b L σ hb
    | m + 1 => exact Ey_no
theorem k7_y_X1_markCell (k b : Nat) (L : LV) (σ : CS) (hb : K7 w σ) : Ey w (y_X1_markCell k b L σ) := k7_y_H2 k 60 0 b L σ hb
theorem k7_y_J6_bitCount_0f7a4 : ∀ (k b : Nat) (L : LV) (σ : CS), K7 w σ → Ey w (y_J6_bitCount_0f7a4 k b L σ) := by
  intro k
  induction k with
  | zero => intro b L σ _; exact Ey_no
  | succ k ih =>
    intro b L σ hb
    match b with
    | 0 =>
      refine Ey_eq (by rw [y_J6_bitCount_0f7a4]) ?_
      exact Ey_so hb
    | b + 1 =>
      exact Ey_eq (by rw [y_J6_bitCount_0f7a4]) Ey_no
theorem k7_y_X1_endMarking : ∀ (k b : Nat) (L : LV) (σ : CS), K7 w σ → Ey w (y_X1_endMarking k b L σ) := by
  intro k
  induction k with
  | zero => intro b L σ _; exact Ey_no
  | succ k ih =>
    intro b L σ hb
    match b with
    | 0 =>
      refine Ey_eq (by rw [y_X1_endMarking]) ?_
      exact ih _ _ _ hb
    | 1 =>
      refine Ey_eq (by rw [y_X1_endMarking]) ?_
      exact Ey_ite (ih _ _ _ hb) (Ey_ite (Ey_ite (Ey_oc (k7_y_J6_bitCount_0f7a4 _ _ _ _ (uA_K7 (by decide) hb)) (fun _ h356 => ih _ _ _ h356)) (Ey_no)) (Ey_no))
    | 2 =>
      refine Ey_eq (by rw [y_X1_endMarking]) ?_
      exact Ey_so hb
    | b + 3 =>
      exact Ey_eq (by rw [y_X1_endMarking]) Ey_no
theorem k7_y_X1_placeOf : ∀ (k b : Nat) (L : LV) (σ : CS), K7 w σ → Ey w (y_X1_placeOf k b L σ) := by
  intro k
  induction k with
  | zero => intro b L σ _; exact Ey_no
  | succ k ih =>
    intro b L σ hb
    match b with
    | 0 =>
      refine Ey_eq (by rw [y_X1_placeOf]) ?_
      exact Ey_ite (Ey_ite (Ey_oc (k7_y_J6_bitCount_0f7a4 _ _ _ _ hb) (fun _ h357 => Ey_so h357)) (Ey_no)) (Ey_no)
    | b + 1 =>
      exact Ey_eq (by rw [y_X1_placeOf]) Ey_no
theorem k7_y_X1_moveCells : ∀ (k b : Nat) (L : LV) (σ : CS), K7 w σ → Ey w (y_X1_moveCells k b L σ) := by
  intro k
  induction k with
  | zero => intro b L σ _; exact Ey_no
  | succ k ih =>
    intro b L σ hb
    match b with
    | 0 =>
      refine Ey_eq (by rw [y_X1_moveCells]) ?_
      exact ih _ _ _ hb
    | 1 =>
      refine Ey_eq (by rw [y_X1_moveCells]) ?_
      exact Ey_ite (ih _ _ _ hb) (Ey_ite (Ey_oc (k7_y_X1_wordsBehind _ _ _ _ hb) (fun _ h358 => Ey_ite (Ey_ite (ih _ _ _ h358) (ih _ _ _ h358)) (Ey_no))) (Ey_no))
    | 2 =>
      refine Ey_eq (by rw [y_X1_moveCells]) ?_
      exact Ey_so (uI_K7 (by decide) hb)
    | 3 =>
      refine Ey_eq (by rw [y_X1_moveCells]) ?_
      exact ih _ _ _ hb
    | 4 =>
      refine Ey_eq (by rw [y_X1_moveCells]) ?_
      exact Ey_ite (ih _ _ _ hb) (Ey_ite (ih _ _ _ hb) (Ey_ite (Ey_ite (ih _ _ _ hb) (Ey_ite (Ey_oc (k7_y_X1_placeOf _ _ _ _ hb) (fun _ h359 => ih _ _ _ h359)) (Ey_no))) (Ey_no)))
    | 5 =>
      refine Ey_eq (by rw [y_X1_moveCells]) ?_
      exact Ey_ite (ih _ _ _ (uF_K7 (by decide) hb)) (Ey_no)
    | 6 =>
      refine Ey_eq (by rw [y_X1_moveCells]) ?_
      exact Ey_ite (ih _ _ _ hb) (Ey_no)
    | 7 =>
      refine Ey_eq (by rw [y_X1_moveCells]) ?_
      exact Ey_ite (ih _ _ _ (uA_K7 (by decide) hb)) (Ey_no)
    | b + 8 =>
      exact Ey_eq (by rw [y_X1_moveCells]) Ey_no
theorem k7_y_X3_global : ∀ (k b : Nat) (L : LV) (σ : CS), K7 w σ → Ey w (y_X3_global k b L σ) := by
  intro k
  induction k with
  | zero => intro b L σ _; exact Ey_no
  | succ k ih =>
    intro b L σ hb
    match b with
    | 0 =>
      refine Ey_eq (by rw [y_X3_global]) ?_
      exact Ey_ite (Ey_so hb) (Ey_no)
    | b + 1 =>
      exact Ey_eq (by rw [y_X3_global]) Ey_no
theorem k7_y_X9_used : ∀ (k b : Nat) (L : LV) (σ : CS), K7 w σ → Ey w (y_X9_used k b L σ) := by
  intro k
  induction k with
  | zero => intro b L σ _; exact Ey_no
  | succ k ih =>
    intro b L σ hb
    match b with
    | 0 =>
      refine Ey_eq (by rw [y_X9_used]) ?_
      exact Ey_ite (ih _ _ _ hb) (Ey_ite (Ey_ck (fun h9 => Ey_ite (Ey_ck (fun h9 => ih _ _ _ hb)) (Ey_no))) (Ey_no))
    | 1 =>
      refine Ey_eq (by rw [y_X9_used]) ?_
      exact ih _ _ _ hb
    | 2 =>
      refine Ey_eq (by rw [y_X9_used]) ?_
      exact Ey_so hb
    | b + 3 =>
      exact Ey_eq (by rw [y_X9_used]) Ey_no
theorem k7_y_X1_markRow__z20 : ∀ (k b : Nat) (L : LV) (σ : CS), K7 w σ → Ey w (y_X1_markRow__z20 k b L σ) := by
  intro k
  induction k with
  | zero => intro b L σ _; exact Ey_no
  | succ k ih =>
    intro b L σ hb
    match b with
    | 0 =>
      refine Ey_eq (by rw [y_X1_markRow__z20]) ?_
      exact ih _ _ _ hb
    | 1 =>
      refine Ey_eq (by rw [y_X1_markRow__z20]) ?_
      exact Ey_ite (ih _ _ _ hb) (Ey_ite (Ey_ite (ih _ _ _ hb) (Ey_ite (Ey_oc (k7_y_X1_markCell _ _ _ _ hb) (fun _ h360 => ih _ _ _ h360)) (Ey_no))) (Ey_no))
    | 2 =>
      refine Ey_eq (by rw [y_X1_markRow__z20]) ?_
      exact Ey_so hb
    | 3 =>
      refine Ey_eq (by rw [y_X1_markRow__z20]) ?_
      exact ih _ _ _ hb
    | b + 4 =>
      exact Ey_eq (by rw [y_X1_markRow__z20]) Ey_no
theorem k7_y_X1_markRow__a23 : ∀ (k b : Nat) (L : LV) (σ : CS), K7 w σ → Ey w (y_X1_markRow__a23 k b L σ) := by
  intro k
  induction k with
  | zero => intro b L σ _; exact Ey_no
  | succ k ih =>
    intro b L σ hb
    match b with
    | 0 =>
      refine Ey_eq (by rw [y_X1_markRow__a23]) ?_
      exact ih _ _ _ hb
    | 1 =>
      refine Ey_eq (by rw [y_X1_markRow__a23]) ?_
      exact Ey_ite (ih _ _ _ hb) (Ey_ite (Ey_ite (ih _ _ _ hb) (Ey_ite (Ey_oc (k7_y_X1_markCell _ _ _ _ hb) (fun _ h361 => ih _ _ _ h361)) (Ey_no))) (Ey_no))
    | 2 =>
      refine Ey_eq (by rw [y_X1_markRow__a23]) ?_
      exact Ey_so hb
    | 3 =>
      refine Ey_eq (by rw [y_X1_markRow__a23]) ?_
      exact ih _ _ _ hb
    | b + 4 =>
      exact Ey_eq (by rw [y_X1_markRow__a23]) Ey_no
theorem k7_y_X1_markRow__z21 : ∀ (k b : Nat) (L : LV) (σ : CS), K7 w σ → Ey w (y_X1_markRow__z21 k b L σ) := by
  intro k
  induction k with
  | zero => intro b L σ _; exact Ey_no
  | succ k ih =>
    intro b L σ hb
    match b with
    | 0 =>
      refine Ey_eq (by rw [y_X1_markRow__z21]) ?_
      exact ih _ _ _ hb
    | 1 =>
      refine Ey_eq (by rw [y_X1_markRow__z21]) ?_
      exact Ey_ite (ih _ _ _ hb) (Ey_ite (Ey_ite (ih _ _ _ hb) (Ey_ite (Ey_oc (k7_y_X1_markCell _ _ _ _ hb) (fun _ h362 => ih _ _ _ h362)) (Ey_no))) (Ey_no))
    | 2 =>
      refine Ey_eq (by rw [y_X1_markRow__z21]) ?_
      exact Ey_so hb
    | 3 =>
      refine Ey_eq (by rw [y_X1_markRow__z21]) ?_
      exact ih _ _ _ hb
    | b + 4 =>
      exact Ey_eq (by rw [y_X1_markRow__z21]) Ey_no
theorem k7_y_X1_markRow__a67 : ∀ (k b : Nat) (L : LV) (σ : CS), K7 w σ → Ey w (y_X1_markRow__a67 k b L σ) := by
  intro k
  induction k with
  | zero => intro b L σ _; exact Ey_no
  | succ k ih =>
    intro b L σ hb
    match b with
    | 0 =>
      refine Ey_eq (by rw [y_X1_markRow__a67]) ?_
      exact ih _ _ _ hb
    | 1 =>
      refine Ey_eq (by rw [y_X1_markRow__a67]) ?_
      exact Ey_ite (ih _ _ _ hb) (Ey_ite (Ey_ite (ih _ _ _ hb) (Ey_ite (Ey_oc (k7_y_X1_markCell _ _ _ _ hb) (fun _ h363 => ih _ _ _ h363)) (Ey_no))) (Ey_no))
    | 2 =>
      refine Ey_eq (by rw [y_X1_markRow__a67]) ?_
      exact Ey_so hb
    | 3 =>
      refine Ey_eq (by rw [y_X1_markRow__a67]) ?_
      exact ih _ _ _ hb
    | b + 4 =>
      exact Ey_eq (by rw [y_X1_markRow__a67]) Ey_no
theorem k7_y_X1_markRow__z26 : ∀ (k b : Nat) (L : LV) (σ : CS), K7 w σ → Ey w (y_X1_markRow__z26 k b L σ) := by
  intro k
  induction k with
  | zero => intro b L σ _; exact Ey_no
  | succ k ih =>
    intro b L σ hb
    match b with
    | 0 =>
      refine Ey_eq (by rw [y_X1_markRow__z26]) ?_
      exact ih _ _ _ hb
    | 1 =>
      refine Ey_eq (by rw [y_X1_markRow__z26]) ?_
      exact Ey_ite (ih _ _ _ hb) (Ey_ite (Ey_ite (ih _ _ _ hb) (Ey_ite (Ey_oc (k7_y_X1_markCell _ _ _ _ hb) (fun _ h364 => ih _ _ _ h364)) (Ey_no))) (Ey_no))
    | 2 =>
      refine Ey_eq (by rw [y_X1_markRow__z26]) ?_
      exact Ey_so hb
    | 3 =>
      refine Ey_eq (by rw [y_X1_markRow__z26]) ?_
      exact ih _ _ _ hb
    | b + 4 =>
      exact Ey_eq (by rw [y_X1_markRow__z26]) Ey_no
theorem k7_y_X1_moveRow__z20 : ∀ (k b : Nat) (L : LV) (σ : CS), K7 w σ → Ey w (y_X1_moveRow__z20 k b L σ) := by
  intro k
  induction k with
  | zero => intro b L σ _; exact Ey_no
  | succ k ih =>
    intro b L σ hb
    match b with
    | 0 =>
      refine Ey_eq (by rw [y_X1_moveRow__z20]) ?_
      exact ih _ _ _ hb
    | 1 =>
      refine Ey_eq (by rw [y_X1_moveRow__z20]) ?_
      exact Ey_ite (ih _ _ _ hb) (Ey_ite (Ey_ite (ih _ _ _ hb) (Ey_ite (Ey_oc (k7_y_X1_placeOf _ _ _ _ hb) (fun _ h365 => Ey_ite (ih _ _ _ (uA_K7 (by decide) h365)) (Ey_no))) (Ey_no))) (Ey_no))
    | 2 =>
      refine Ey_eq (by rw [y_X1_moveRow__z20]) ?_
      exact Ey_so hb
    | 3 =>
      refine Ey_eq (by rw [y_X1_moveRow__z20]) ?_
      exact ih _ _ _ hb
    | b + 4 =>
      exact Ey_eq (by rw [y_X1_moveRow__z20]) Ey_no
theorem k7_y_X1_moveRow__a23 : ∀ (k b : Nat) (L : LV) (σ : CS), K7 w σ → Ey w (y_X1_moveRow__a23 k b L σ) := by
  intro k
  induction k with
  | zero => intro b L σ _; exact Ey_no
  | succ k ih =>
    intro b L σ hb
    match b with
    | 0 =>
      refine Ey_eq (by rw [y_X1_moveRow__a23]) ?_
      exact ih _ _ _ hb
    | 1 =>
      refine Ey_eq (by rw [y_X1_moveRow__a23]) ?_
      exact Ey_ite (ih _ _ _ hb) (Ey_ite (Ey_ite (ih _ _ _ hb) (Ey_ite (Ey_oc (k7_y_X1_placeOf _ _ _ _ hb) (fun _ h366 => Ey_ite (ih _ _ _ (uA_K7 (by decide) h366)) (Ey_no))) (Ey_no))) (Ey_no))
    | 2 =>
      refine Ey_eq (by rw [y_X1_moveRow__a23]) ?_
      exact Ey_so hb
    | 3 =>
      refine Ey_eq (by rw [y_X1_moveRow__a23]) ?_
      exact ih _ _ _ hb
    | b + 4 =>
      exact Ey_eq (by rw [y_X1_moveRow__a23]) Ey_no
theorem k7_y_X1_moveRow__z21 : ∀ (k b : Nat) (L : LV) (σ : CS), K7 w σ → Ey w (y_X1_moveRow__z21 k b L σ) := by
  intro k
  induction k with
  | zero => intro b L σ _; exact Ey_no
  | succ k ih =>
    intro b L σ hb
    match b with
    | 0 =>
      refine Ey_eq (by rw [y_X1_moveRow__z21]) ?_
      exact ih _ _ _ hb
    | 1 =>
      refine Ey_eq (by rw [y_X1_moveRow__z21]) ?_
      exact Ey_ite (ih _ _ _ hb) (Ey_ite (Ey_ite (ih _ _ _ hb) (Ey_ite (Ey_oc (k7_y_X1_placeOf _ _ _ _ hb) (fun _ h367 => Ey_ite (ih _ _ _ (uA_K7 (by decide) h367)) (Ey_no))) (Ey_no))) (Ey_no))
    | 2 =>
      refine Ey_eq (by rw [y_X1_moveRow__z21]) ?_
      exact Ey_so hb
    | 3 =>
      refine Ey_eq (by rw [y_X1_moveRow__z21]) ?_
      exact ih _ _ _ hb
    | b + 4 =>
      exact Ey_eq (by rw [y_X1_moveRow__z21]) Ey_no
theorem k7_y_X1_moveRow__a67 : ∀ (k b : Nat) (L : LV) (σ : CS), K7 w σ → Ey w (y_X1_moveRow__a67 k b L σ) := by
  intro k
  induction k with
  | zero => intro b L σ _; exact Ey_no
  | succ k ih =>
    intro b L σ hb
    match b with
    | 0 =>
      refine Ey_eq (by rw [y_X1_moveRow__a67]) ?_
      exact ih _ _ _ hb
    | 1 =>
      refine Ey_eq (by rw [y_X1_moveRow__a67]) ?_
      exact Ey_ite (ih _ _ _ hb) (Ey_ite (Ey_ite (ih _ _ _ hb) (Ey_ite (Ey_oc (k7_y_X1_placeOf _ _ _ _ hb) (fun _ h368 => Ey_ite (ih _ _ _ (uA_K7 (by decide) h368)) (Ey_no))) (Ey_no))) (Ey_no))
    | 2 =>
      refine Ey_eq (by rw [y_X1_moveRow__a67]) ?_
      exact Ey_so hb
    | 3 =>
      refine Ey_eq (by rw [y_X1_moveRow__a67]) ?_
      exact ih _ _ _ hb
    | b + 4 =>
      exact Ey_eq (by rw [y_X1_moveRow__a67]) Ey_no
theorem k7_y_X1_moveRow__z26 : ∀ (k b : Nat) (L : LV) (σ : CS), K7 w σ → Ey w (y_X1_moveRow__z26 k b L σ) := by
  intro k
  induction k with
  | zero => intro b L σ _; exact Ey_no
  | succ k ih =>
    intro b L σ hb
    match b with
    | 0 =>
      refine Ey_eq (by rw [y_X1_moveRow__z26]) ?_
      exact ih _ _ _ hb
    | 1 =>
      refine Ey_eq (by rw [y_X1_moveRow__z26]) ?_
      exact Ey_ite (ih _ _ _ hb) (Ey_ite (Ey_ite (ih _ _ _ hb) (Ey_ite (Ey_oc (k7_y_X1_placeOf _ _ _ _ hb) (fun _ h369 => Ey_ite (ih _ _ _ (uA_K7 (by decide) h369)) (Ey_no))) (Ey_no))) (Ey_no))
    | 2 =>
      refine Ey_eq (by rw [y_X1_moveRow__z26]) ?_
      exact Ey_so hb
    | 3 =>
      refine Ey_eq (by rw [y_X1_moveRow__z26]) ?_
      exact ih _ _ _ hb
    | b + 4 =>
      exact Ey_eq (by rw [y_X1_moveRow__z26]) Ey_no
theorem k7_y_X3_moveAll : ∀ (k b : Nat) (L : LV) (σ : CS), K7 w σ → Ey w (y_X3_moveAll k b L σ) := by
  intro k
  induction k with
  | zero => intro b L σ _; exact Ey_no
  | succ k ih =>
    intro b L σ hb
    match b with
    | 0 =>
      refine Ey_eq (by rw [y_X3_moveAll]) ?_
      exact Ey_oc (k7_y_X1_beginMarking _ _ _ _ hb) (fun _ h370 => Ey_oc (k7_y_X1_markRow__z20 _ _ _ _ h370) (fun _ h371 => Ey_oc (k7_y_X1_markRow__a23 _ _ _ _ h371) (fun _ h372 => Ey_oc (k7_y_X1_markRow__z21 _ _ _ _ h372) (fun _ h373 => Ey_oc (k7_y_X1_markRow__a67 _ _ _ _ h373) (fun _ h374 => Ey_oc (k7_y_X9_used _ _ _ _ h374) (fun _ h375 => Ey_oc (k7_y_X1_markRow__z26 _ _ _ _ h375) (fun _ h376 => Ey_oc (k7_y_X1_endMarking _ _ _ _ h376) (fun _ h377 => Ey_oc (k7_y_X1_moveRow__z20 _ _ _ _ h377) (fun _ h378 => Ey_oc (k7_y_X1_moveRow__a23 _ _ _ _ h378) (fun _ h379 => Ey_oc (k7_y_X1_moveRow__z21 _ _ _ _ h379) (fun _ h380 => Ey_oc (k7_y_X1_moveRow__a67 _ _ _ _ h380) (fun _ h381 => Ey_oc (k7_y_X9_used _ _ _ _ h381) (fun _ h382 => Ey_oc (k7_y_X1_moveRow__z26 _ _ _ _ h382) (fun _ h383 => Ey_oc (k7_y_X1_moveCells _ _ _ _ h383) (fun _ h384 => Ey_so h384)))))))))))))))
    | b + 1 =>
      exact Ey_eq (by rw [y_X3_moveAll]) Ey_no
theorem k7_y_X3_beginWork : ∀ (k b : Nat) (L : LV) (σ : CS), K7 w σ → Ey w (y_X3_beginWork k b L σ) := by
  intro k
  induction k with
  | zero => intro b L σ _; exact Ey_no
  | succ k ih =>
    intro b L σ hb
    match b with
    | 0 =>
      refine Ey_eq (by rw [y_X3_beginWork]) ?_
      exact ih _ _ _ (uI_K7 (by decide) (uI_K7 (by decide) (uI_K7 (by decide) hb)))
    | 1 =>
      refine Ey_eq (by rw [y_X3_beginWork]) ?_
      exact Ey_so (uI_K7 (by decide) (uI_K7 (by decide) hb))
    | b + 2 =>
      exact Ey_eq (by rw [y_X3_beginWork]) Ey_no
theorem k7_y_X3_fail : ∀ (k b : Nat) (L : LV) (σ : CS), K7 w σ → Ey w (y_X3_fail k b L σ) := by
  intro k
  induction k with
  | zero => intro b L σ _; exact Ey_no
  | succ k ih =>
    intro b L σ hb
    match b with
    | 0 =>
      refine Ey_eq (by rw [y_X3_fail]) ?_
      exact Ey_so (uI_K7 (by decide) (uI_K7 (by decide) hb))
    | b + 1 =>
      exact Ey_eq (by rw [y_X3_fail]) Ey_no
theorem k7_y_X3_spend : ∀ (k b : Nat) (L : LV) (σ : CS), K7 w σ → Ey w (y_X3_spend k b L σ) := by
  intro k
  induction k with
  | zero => intro b L σ _; exact Ey_no
  | succ k ih =>
    intro b L σ hb
    match b with
    | 0 =>
      refine Ey_eq (by rw [y_X3_spend]) ?_
      exact Ey_ite (ih _ _ _ (uI_K7 (by decide) hb)) (ih _ _ _ (uI_K7 (by decide) (uI_K7 (by decide) (uI_K7 (by decide) hb))))
    | 1 =>
      refine Ey_eq (by rw [y_X3_spend]) ?_
      exact Ey_so hb
    | b + 2 =>
      exact Ey_eq (by rw [y_X3_spend]) Ey_no
theorem k7_y_X3_pop : ∀ (k b : Nat) (L : LV) (σ : CS), K7 w σ → Ey w (y_X3_pop k b L σ) := by
  intro k
  induction k with
  | zero => intro b L σ _; exact Ey_no
  | succ k ih =>
    intro b L σ hb
    match b with
    | 0 =>
      refine Ey_eq (by rw [y_X3_pop]) ?_
      exact Ey_ite (Ey_so (uI_K7 (by decide) hb)) (Ey_no)
    | b + 1 =>
      exact Ey_eq (by rw [y_X3_pop]) Ey_no
theorem k7_y_X3_replace : ∀ (k b : Nat) (L : LV) (σ : CS), K7 w σ → Ey w (y_X3_replace k b L σ) := by
  intro k
  induction k with
  | zero => intro b L σ _; exact Ey_no
  | succ k ih =>
    intro b L σ hb
    match b with
    | 0 =>
      refine Ey_eq (by rw [y_X3_replace]) ?_
      exact Ey_oc (k7_y_X11_isError _ _ _ _ hb) (fun _ h385 => Ey_ite (ih _ _ _ h385) (Ey_oc (k7_y_X3_fail _ _ _ _ h385) (fun _ h386 => ih _ _ _ h386)))
    | 1 =>
      refine Ey_eq (by rw [y_X3_replace]) ?_
      exact Ey_ite (Ey_oc (k7_y_X1_size _ _ _ _ (uA_K7 (by decide) hb)) (fun _ h387 => Ey_oc (k7_y_X3_spend _ _ _ _ h387) (fun _ h388 => ih _ _ _ h388))) (Ey_no)
    | 2 =>
      refine Ey_eq (by rw [y_X3_replace]) ?_
      exact Ey_so hb
    | b + 3 =>
      exact Ey_eq (by rw [y_X3_replace]) Ey_no
theorem k7_y_X3_wantTruth : ∀ (k b : Nat) (L : LV) (σ : CS), K7 w σ → Ey w (y_X3_wantTruth k b L σ) := by
  intro k
  induction k with
  | zero => intro b L σ _; exact Ey_no
  | succ k ih =>
    intro b L σ hb
    match b with
    | 0 =>
      refine Ey_eq (by rw [y_X3_wantTruth]) ?_
      exact Ey_ite (ih _ _ _ hb) (Ey_ite (ih _ _ _ hb) (Ey_oc (k7_y_X3_fail _ _ _ _ hb) (fun _ h389 => Ey_so h389)))
    | 1 =>
      refine Ey_eq (by rw [y_X3_wantTruth]) ?_
      exact Ey_so hb
    | b + 2 =>
      exact Ey_eq (by rw [y_X3_wantTruth]) Ey_no
theorem k7_y_X3_shortcut : ∀ (k b : Nat) (L : LV) (σ : CS), K7 w σ → Ey w (y_X3_shortcut k b L σ) := by
  intro k
  induction k with
  | zero => intro b L σ _; exact Ey_no
  | succ k ih =>
    intro b L σ hb
    match b with
    | 0 =>
      refine Ey_eq (by rw [y_X3_shortcut]) ?_
      exact Ey_ite (Ey_oc (k7_y_X3_wantTruth _ _ _ _ hb) (fun _ h390 => Ey_ite (Ey_so h390) (ih _ _ _ h390))) (Ey_no)
    | 1 =>
      refine Ey_eq (by rw [y_X3_shortcut]) ?_
      exact Ey_ite (Ey_oc (k7_y_X3_spend _ _ _ _ (uI_K7 (by decide) hb)) (fun _ h391 => ih _ _ _ h391)) (ih _ _ _ hb)
    | 2 =>
      refine Ey_eq (by rw [y_X3_shortcut]) ?_
      exact ih _ _ _ (uI_K7 (by decide) hb)
    | 3 =>
      refine Ey_eq (by rw [y_X3_shortcut]) ?_
      exact Ey_so hb
    | b + 4 =>
      exact Ey_eq (by rw [y_X3_shortcut]) Ey_no
theorem k7_y_X3_beginStatement : ∀ (k b : Nat) (L : LV) (σ : CS), K7 w σ → Ey w (y_X3_beginStatement k b L σ) := by
  intro k
  induction k with
  | zero => intro b L σ _; exact Ey_no
  | succ k ih =>
    intro b L σ hb
    match b with
    | 0 =>
      refine Ey_eq (by rw [y_X3_beginStatement]) ?_
      exact Ey_ite (Ey_so (uI_K7 (by decide) (uI_K7 (by decide) hb))) (ih _ _ _ hb)
    | 1 =>
      refine Ey_eq (by rw [y_X3_beginStatement]) ?_
      exact ih _ _ _ (uI_K7 (by decide) (uI_K7 (by decide) (uI_K7 (by decide) hb)))
    | 2 =>
      refine Ey_eq (by rw [y_X3_beginStatement]) ?_
      exact Ey_so (uI_K7 (by decide) hb)
    | b + 3 =>
      exact Ey_eq (by rw [y_X3_beginStatement]) Ey_no
theorem k7_y_X11_unraw : ∀ (k b : Nat) (L : LV) (σ : CS), K7 w σ → Ey w (y_X11_unraw k b L σ) := by
  intro k
  induction k with
  | zero => intro b L σ _; exact Ey_no
  | succ k ih =>
    intro b L σ hb
    match b with
    | 0 =>
      refine Ey_eq (by rw [y_X11_unraw]) ?_
      exact Ey_so hb
    | b + 1 =>
      exact Ey_eq (by rw [y_X11_unraw]) Ey_no
theorem k7_y_X3_endProc : ∀ (k b : Nat) (L : LV) (σ : CS), K7 w σ → Ey w (y_X3_endProc k b L σ) := by
  intro k
  induction k with
  | zero => intro b L σ _; exact Ey_no
  | succ k ih =>
    intro b L σ hb
    match b with
    | 0 =>
      refine Ey_eq (by rw [y_X3_endProc]) ?_
      exact Ey_oc (k7_y_X3_pop _ _ _ _ hb) (fun _ h392 => Ey_oB (fun _ => Ey_ite (Ey_oc (k7_y_X11_unraw _ _ _ _ h392) (fun _ h393 => Ey_ite (Ey_ite (Ey_oc (k7_y_X11_unraw _ _ _ _ h393) (fun _ h394 => ih _ _ _ (uI_K7 (by decide) h394))) (Ey_no)) (Ey_no))) (Ey_no)))
    | 1 =>
      refine Ey_eq (by rw [y_X3_endProc]) ?_
      exact Ey_ite (Ey_oc (k7_y_X11_unraw _ _ _ _ hb) (fun _ h395 => ih _ _ _ (uI_K7 (by decide) (uI_K7 (by decide) h395)))) (Ey_no)
    | 2 =>
      refine Ey_eq (by rw [y_X3_endProc]) ?_
      exact Ey_ite (Ey_oc (k7_y_X11_unraw _ _ _ _ (uI_K7 (by decide) hb)) (fun _ h396 => ih _ _ _ (uI_K7 (by decide) h396))) (Ey_no)
    | 3 =>
      refine Ey_eq (by rw [y_X3_endProc]) ?_
      exact Ey_ite (ih _ _ _ (uA_K7 (by decide) hb)) (Ey_no)
    | 4 =>
      refine Ey_eq (by rw [y_X3_endProc]) ?_
      exact Ey_ite (ih _ _ _ hb) (Ey_ite (Ey_ite (ih _ _ _ (uA_K7 (by decide) hb)) (Ey_no)) (Ey_no))
    | 5 =>
      refine Ey_eq (by rw [y_X3_endProc]) ?_
      exact Ey_so (uI_K7 (by decide) hb)
    | b + 6 =>
      exact Ey_eq (by rw [y_X3_endProc]) Ey_no
theorem k7_y_X3_countOut : ∀ (k b : Nat) (L : LV) (σ : CS), K7 w σ → Ey w (y_X3_countOut k b L σ) := by
  intro k
  induction k with
  | zero => intro b L σ _; exact Ey_no
  | succ k ih =>
    intro b L σ hb
    match b with
    | 0 =>
      refine Ey_eq (by rw [y_X3_countOut]) ?_
      exact Ey_so (uI_K7 (by decide) hb)
    | b + 1 =>
      exact Ey_eq (by rw [y_X3_countOut]) Ey_no
theorem k7_y_X3_nextDraw : ∀ (k b : Nat) (L : LV) (σ : CS), K7 w σ → Ey w (y_X3_nextDraw k b L σ) := by
  intro k
  induction k with
  | zero => intro b L σ _; exact Ey_no
  | succ k ih =>
    intro b L σ hb
    match b with
    | 0 =>
      refine Ey_eq (by rw [y_X3_nextDraw]) ?_
      exact Ey_ite (ih _ _ _ (uL_K7 hb)) (Ey_ite (Ey_no) (ih _ _ _ (uL_K7 hb)))
    | 1 =>
      refine Ey_eq (by rw [y_X3_nextDraw]) ?_
      exact ih _ _ _ hb
    | 2 =>
      refine Ey_eq (by rw [y_X3_nextDraw]) ?_
      exact Ey_so hb
    | b + 3 =>
      exact Ey_eq (by rw [y_X3_nextDraw]) Ey_no
theorem k7_y_X3_drawn : ∀ (k b : Nat) (L : LV) (σ : CS), K7 w σ → Ey w (y_X3_drawn k b L σ) := by
  intro k
  induction k with
  | zero => intro b L σ _; exact Ey_no
  | succ k ih =>
    intro b L σ hb
    match b with
    | 0 =>
      refine Ey_eq (by rw [y_X3_drawn]) ?_
      exact Ey_oc (k7_y_X1_kind _ _ _ _ hb) (fun _ h397 => Ey_ite (ih _ _ _ h397) (Ey_oc (k7_y_X1_length _ _ _ _ h397) (fun _ h398 => Ey_ite (ih _ _ _ h398) (ih _ _ _ h398))))
    | 1 =>
      refine Ey_eq (by rw [y_X3_drawn]) ?_
      exact Ey_ite (ih _ _ _ hb) (Ey_so hb)
    | 2 =>
      refine Ey_eq (by rw [y_X3_drawn]) ?_
      exact Ey_oc (k7_y_X3_nextDraw _ _ _ _ hb) (fun _ h399 => Ey_oc (k7_y_X1_taken _ _ _ _ h399) (fun _ h400 => ih _ _ _ h400))
    | 3 =>
      refine Ey_eq (by rw [y_X3_drawn]) ?_
      exact Ey_so hb
    | 4 =>
      refine Ey_eq (by rw [y_X3_drawn]) ?_
      exact Ey_ite (ih _ _ _ hb) (Ey_oc (k7_y_X10_number _ _ _ _ hb) (fun _ h401 => ih _ _ _ h401))
    | 5 =>
      refine Ey_eq (by rw [y_X3_drawn]) ?_
      exact Ey_oc (k7_y_X1_length _ _ _ _ hb) (fun _ h402 => Ey_ite (Ey_ite (ih _ _ _ h402) (Ey_no)) (ih _ _ _ h402))
    | 6 =>
      refine Ey_eq (by rw [y_X3_drawn]) ?_
      exact Ey_ite (ih _ _ _ hb) (Ey_oc (k7_y_X10_isBelow _ _ _ _ hb) (fun _ h403 => Ey_ite (ih _ _ _ h403) (ih _ _ _ h403)))
    | 7 =>
      refine Ey_eq (by rw [y_X3_drawn]) ?_
      exact ih _ _ _ hb
    | 8 =>
      refine Ey_eq (by rw [y_X3_drawn]) ?_
      exact Ey_so hb
    | 9 =>
      refine Ey_eq (by rw [y_X3_drawn]) ?_
      exact Ey_oc (k7_y_X3_nextDraw _ _ _ _ hb) (fun _ h404 => Ey_oc (k7_y_X10_of _ _ _ _ h404) (fun _ h405 => Ey_so h405))
    | b + 10 =>
      exact Ey_eq (by rw [y_X3_drawn]) Ey_no
theorem k7_y_X11_raw : ∀ (k b : Nat) (L : LV) (σ : CS), K7 w σ → Ey w (y_X11_raw k b L σ) := by
  intro k
  induction k with
  | zero => intro b L σ _; exact Ey_no
  | succ k ih =>
    intro b L σ hb
    match b with
    | 0 =>
      refine Ey_eq (by rw [y_X11_raw]) ?_
      exact Ey_so hb
    | b + 1 =>
      exact Ey_eq (by rw [y_X11_raw]) Ey_no
theorem k7_y_X3_assign : ∀ (k b : Nat) (L : LV) (σ : CS), K7 w σ → Ey w (y_X3_assign k b L σ) := by
  intro k
  induction k with
  | zero => intro b L σ _; exact Ey_no
  | succ k ih =>
    intro b L σ hb
    match b with
    | 0 =>
      refine Ey_eq (by rw [y_X3_assign]) ?_
      exact Ey_oc (k7_y_X1_size _ _ _ _ hb) (fun _ h406 => Ey_ite (Ey_oc (k7_y_X1_size _ _ _ _ h406) (fun _ h407 => Ey_ite (ih _ _ _ h407) (Ey_ite (ih _ _ _ h407) (Ey_oc (k7_y_X3_fail _ _ _ _ h407) (fun _ h408 => Ey_so h408))))) (Ey_no))
    | 1 =>
      refine Ey_eq (by rw [y_X3_assign]) ?_
      exact Ey_ite (ih _ _ _ (uI_K7 (by decide) hb)) (ih _ _ _ (uI_K7 (by decide) hb))
    | 2 =>
      refine Ey_eq (by rw [y_X3_assign]) ?_
      exact ih _ _ _ hb
    | 3 =>
      refine Ey_eq (by rw [y_X3_assign]) ?_
      exact Ey_ite (Ey_so (uA_K7 (by decide) (uI_K7 (by decide) hb))) (Ey_no)
    | b + 4 =>
      exact Ey_eq (by rw [y_X3_assign]) Ey_no
theorem k7_y_X3_letGo__z20 : ∀ (k b : Nat) (L : LV) (σ : CS), K7 w σ → Ey w (y_X3_letGo__z20 k b L σ) := by
  intro k
  induction k with
  | zero => intro b L σ _; exact Ey_no
  | succ k ih =>
    intro b L σ hb
    match b with
    | 0 =>
      refine Ey_eq (by rw [y_X3_letGo__z20]) ?_
      exact Ey_ite (ih _ _ _ hb) (Ey_ite (Ey_ite (ih _ _ _ hb) (Ey_ite (Ey_oc (k7_y_X1_size _ _ _ _ hb) (fun _ h409 => ih _ _ _ (uI_K7 (by decide) (uI_K7 (by decide) h409)))) (Ey_no))) (Ey_no))
    | 1 =>
      refine Ey_eq (by rw [y_X3_letGo__z20]) ?_
      exact Ey_ite (Ey_ite (Ey_so (uA_K7 (by decide) (uA_K7 (by decide) hb))) (Ey_no)) (Ey_no)
    | b + 2 =>
      exact Ey_eq (by rw [y_X3_letGo__z20]) Ey_no
theorem k7_y_X3_clearFor : ∀ (k b : Nat) (L : LV) (σ : CS), K7 w σ → Ey w (y_X3_clearFor k b L σ) := by
  intro k
  induction k with
  | zero => intro b L σ _; exact Ey_no
  | succ k ih =>
    intro b L σ hb
    match b with
    | 0 =>
      refine Ey_eq (by rw [y_X3_clearFor]) ?_
      exact Ey_oc (k7_y_X3_letGo__z20 _ _ _ _ hb) (fun _ h410 => ih _ _ _ h410)
    | 1 =>
      refine Ey_eq (by rw [y_X3_clearFor]) ?_
      exact Ey_ite (ih _ _ _ hb) (Ey_oc (k7_y_X3_assign _ _ _ _ hb) (fun _ h411 => ih _ _ _ h411))
    | 2 =>
      refine Ey_eq (by rw [y_X3_clearFor]) ?_
      exact Ey_so hb
    | b + 3 =>
      exact Ey_eq (by rw [y_X3_clearFor]) Ey_no
theorem k7_y_X5_noteFault : ∀ (k b : Nat) (L : LV) (σ : CS), K7 w σ → Ey w (y_X5_noteFault k b L σ) := by
  intro k
  induction k with
  | zero => intro b L σ _; exact Ey_no
  | succ k ih =>
    intro b L σ hb
    match b with
    | 0 =>
      refine Ey_eq (by rw [y_X5_noteFault]) ?_
      exact Ey_ite (ih _ _ _ (uI_K7 (by decide) (uI_K7 (by decide) hb))) (ih _ _ _ hb)
    | 1 =>
      refine Ey_eq (by rw [y_X5_noteFault]) ?_
      exact Ey_so hb
    | b + 2 =>
      exact Ey_eq (by rw [y_X5_noteFault]) Ey_no
theorem k7_y_X5_closeUnit : ∀ (k b : Nat) (L : LV) (σ : CS), K7 w σ → Ey w (y_X5_closeUnit k b L σ) := by
  intro k
  induction k with
  | zero => intro b L σ _; exact Ey_no
  | succ k ih =>
    intro b L σ hb
    match b with
    | 0 =>
      refine Ey_eq (by rw [y_X5_closeUnit]) ?_
      exact Ey_oB (fun _ => ih _ _ _ (uI_K7 (by decide) (uI_K7 (by decide) (uI_K7 (fP_7 _ (by decide) (by decide) (by decide)) hb))))
    | 1 =>
      refine Ey_eq (by rw [y_X5_closeUnit]) ?_
      exact Ey_so hb
    | b + 2 =>
      exact Ey_eq (by rw [y_X5_closeUnit]) Ey_no
theorem k7_y_X5_beginsStatement : ∀ (k b : Nat) (L : LV) (σ : CS), K7 w σ → Ey w (y_X5_beginsStatement k b L σ) := by
  intro k
  induction k with
  | zero => intro b L σ _; exact Ey_no
  | succ k ih =>
    intro b L σ hb
    match b with
    | 0 =>
      refine Ey_eq (by rw [y_X5_beginsStatement]) ?_
      exact Ey_ite (ih _ _ _ hb) (Ey_ite (ih _ _ _ hb) (Ey_ite (ih _ _ _ hb) (Ey_ite (ih _ _ _ hb) (Ey_ite (ih _ _ _ hb) (Ey_ite (ih _ _ _ hb) (Ey_ite (ih _ _ _ hb) (Ey_ite (ih _ _ _ hb) (Ey_ite (ih _ _ _ hb) (Ey_ite (ih _ _ _ hb) (Ey_ite (ih _ _ _ hb) (Ey_ite (ih _ _ _ hb) (Ey_ite (ih _ _ _ hb) (Ey_ite (ih _ _ _ hb) (Ey_ite (ih _ _ _ hb) (Ey_ite (ih _ _ _ hb) (Ey_ite (ih _ _ _ hb) (Ey_ite (ih _ _ _ hb) (Ey_ite (ih _ _ _ hb) (Ey_ite (ih _ _ _ hb) (Ey_ite (ih _ _ _ hb) (Ey_ite (ih _ _ _ hb) (Ey_ite (ih _ _ _ hb) (Ey_ite (ih _ _ _ hb) (Ey_ite (ih _ _ _ hb) (Ey_ite (ih _ _ _ hb) (Ey_ite (ih _ _ _ hb) (Ey_ite (ih _ _ _ hb) (Ey_ite (ih _ _ _ hb) (Ey_ite (ih _ _ _ hb) (Ey_ite (ih _ _ _ hb) (Ey_ite (ih _ _ _ hb) (Ey_ite (ih _ _ _ hb) (Ey_ite (ih _ _ _ hb) (Ey_ite (ih _ _ _ hb) (Ey_ite (ih _ _ _ hb) (Ey_ite (ih _ _ _ hb) (Ey_ite (ih _ _ _ hb) (Ey_ite (ih _ _ _ hb) (Ey_ite (ih _ _ _ hb) (Ey_ite (ih _ _ _ hb) (Ey_ite (ih _ _ _ hb) (Ey_ite (ih _ _ _ hb) (Ey_ite (ih _ _ _ hb) (Ey_ite (ih _ _ _ hb) (Ey_ite (ih _ _ _ hb) (Ey_ite (ih _ _ _ hb) (Ey_ite (ih _ _ _ hb) (Ey_ite (ih _ _ _ hb) (Ey_ite (ih _ _ _ hb) (Ey_ite (ih _ _ _ hb) (Ey_ite (ih _ _ _ hb) (Ey_ite (ih _ _ _ hb) (Ey_ite (ih _ _ _ hb) (Ey_ite (ih _ _ _ hb) (ih _ _ _ hb)))))))))))))))))))))))))))))))))))))))))))))))))))))))
    | 1 =>
      refine Ey_eq (by rw [y_X5_beginsStatement]) ?_
      exact Ey_so hb
    | 2 =>
      refine Ey_eq (by rw [y_X5_beginsStatement]) ?_
      exact Ey_so hb
    | b + 3 =>
      exact Ey_eq (by rw [y_X5_beginsStatement]) Ey_no
theorem k7_y_X7_aim__P : ∀ (k b : Nat) (L : LV) (σ : CS), K7 w σ → Ey w (y_X7_aim__P k b L σ) := by
  intro k
  induction k with
  | zero => intro b L σ _; exact Ey_no
  | succ k ih =>
    intro b L σ hb
    match b with
    | 0 =>
      refine Ey_eq (by rw [y_X7_aim__P]) ?_
      exact Ey_ite (Ey_ite (Ey_so (uA_K7 (n7_0 _) hb)) (Ey_no)) (Ey_no)
    | b + 1 =>
      exact Ey_eq (by rw [y_X7_aim__P]) Ey_no
theorem k7_y_X5_aimAll : ∀ (k b : Nat) (L : LV) (σ : CS), K7 w σ → Ey w (y_X5_aimAll k b L σ) := by
  intro k
  induction k with
  | zero => intro b L σ _; exact Ey_no
  | succ k ih =>
    intro b L σ hb
    match b with
    | 0 =>
      refine Ey_eq (by rw [y_X5_aimAll]) ?_
      exact ih _ _ _ hb
    | 1 =>
      refine Ey_eq (by rw [y_X5_aimAll]) ?_
      exact Ey_ite (ih _ _ _ hb) (Ey_ite (ih _ _ _ hb) (Ey_oB (fun _ => Ey_ite (Ey_oB (fun _ => Ey_oB (fun _ => Ey_oc (k7_y_X7_aim__P _ _ _ _ hb) (fun _ h412 => ih _ _ _ h412)))) (Ey_no))))
    | 2 =>
      refine Ey_eq (by rw [y_X5_aimAll]) ?_
      exact Ey_so hb
    | b + 3 =>
      exact Ey_eq (by rw [y_X5_aimAll]) Ey_no
theorem k7_y_X5_level : ∀ (k b : Nat) (L : LV) (σ : CS), K7 w σ → Ey w (y_X5_level k b L σ) := by
  intro k
  induction k with
  | zero => intro b L σ _; exact Ey_no
  | succ k ih =>
    intro b L σ hb
    match b with
    | 0 =>
      refine Ey_eq (by rw [y_X5_level]) ?_
      exact Ey_ite (ih _ _ _ hb) (Ey_ite (ih _ _ _ hb) (Ey_ite (ih _ _ _ hb) (Ey_ite (ih _ _ _ hb) (Ey_ite (ih _ _ _ hb) (Ey_ite (ih _ _ _ hb) (Ey_ite (ih _ _ _ hb) (Ey_ite (ih _ _ _ hb) (Ey_ite (ih _ _ _ hb) (Ey_ite (ih _ _ _ hb) (Ey_ite (ih _ _ _ hb) (Ey_ite (ih _ _ _ hb) (Ey_ite (ih _ _ _ hb) (Ey_ite (ih _ _ _ hb) (Ey_ite (ih _ _ _ hb) (Ey_ite (ih _ _ _ hb) (Ey_ite (ih _ _ _ hb) (Ey_ite (ih _ _ _ hb) (Ey_ite (ih _ _ _ hb) (Ey_ite (ih _ _ _ hb) (Ey_ite (ih _ _ _ hb) (Ey_ite (ih _ _ _ hb) (Ey_ite (ih _ _ _ hb) (Ey_ite (ih _ _ _ hb) (Ey_ite (ih _ _ _ hb) (Ey_ite (ih _ _ _ hb) (Ey_ite (ih _ _ _ hb) (Ey_ite (ih _ _ _ hb) (Ey_ite (ih _ _ _ hb) (Ey_ite (ih _ _ _ hb) (Ey_ite (ih _ _ _ hb) (Ey_ite (ih _ _ _ hb) (Ey_ite (ih _ _ _ hb) (Ey_ite (ih _ _ _ hb) (Ey_ite (ih _ _ _ hb) (Ey_ite (ih _ _ _ hb) (Ey_ite (ih _ _ _ hb) (Ey_ite (ih _ _ _ hb) (Ey_ite (ih _ _ _ hb) (Ey_ite (ih _ _ _ hb) (Ey_ite (ih _ _ _ hb) (Ey_ite (ih _ _ _ hb) (Ey_ite (ih _ _ _ hb) (Ey_ite (ih _ _ _ hb) (Ey_ite (ih _ _ _ hb) (Ey_ite (ih _ _ _ hb) (Ey_ite (ih _ _ _ hb) (Ey_ite (ih _ _ _ hb) (Ey_ite (ih _ _ _ hb) (Ey_ite (ih _ _ _ hb) (Ey_ite (ih _ _ _ hb) (Ey_ite (ih _ _ _ hb) (Ey_ite (ih _ _ _ hb) (Ey_ite (ih _ _ _ hb) (Ey_ite (ih _ _ _ hb) (Ey_ite (ih _ _ _ hb) (Ey_ite (ih _ _ _ hb) (Ey_ite (ih _ _ _ hb) (Ey_ite (ih _ _ _ hb) (Ey_ite (ih _ _ _ hb) (Ey_ite (ih _ _ _ hb) (Ey_ite (ih _ _ _ hb) (Ey_ite (ih _ _ _ hb) (ih _ _ _ hb)))))))))))))))))))))))))))))))))))))))))))))))))))))))))))))))
    | 1 =>
      refine Ey_eq (by rw [y_X5_level]) ?_
      exact Ey_so hb
    | 2 =>
      refine Ey_eq (by rw [y_X5_level]) ?_
      exact Ey_so hb
    | 3 =>
      refine Ey_eq (by rw [y_X5_level]) ?_
      exact Ey_so hb
    | 4 =>
      refine Ey_eq (by rw [y_X5_level]) ?_
      exact Ey_so hb
    | 5 =>
      refine Ey_eq (by rw [y_X5_level]) ?_
      exact Ey_so hb
    | 6 =>
      refine Ey_eq (by rw [y_X5_level]) ?_
      exact Ey_so hb
    | 7 =>
      refine Ey_eq (by rw [y_X5_level]) ?_
      exact Ey_so hb
    | b + 8 =>
      exact Ey_eq (by rw [y_X5_level]) Ey_no
theorem k7_y_X5_binaryOp : ∀ (k b : Nat) (L : LV) (σ : CS), K7 w σ → Ey w (y_X5_binaryOp k b L σ) := by
  intro k
  induction k with
  | zero => intro b L σ _; exact Ey_no
  | succ k ih =>
    intro b L σ hb
    match b with
    | 0 =>
      refine Ey_eq (by rw [y_X5_binaryOp]) ?_
      exact Ey_ite (ih _ _ _ hb) (Ey_ite (ih _ _ _ hb) (Ey_ite (ih _ _ _ hb) (Ey_ite (ih _ _ _ hb) (Ey_ite (ih _ _ _ hb) (Ey_ite (ih _ _ _ hb) (Ey_ite (ih _ _ _ hb) (Ey_ite (ih _ _ _ hb) (Ey_ite (ih _ _ _ hb) (ih _ _ _ hb)))))))))
    | 1 =>
      refine Ey_eq (by rw [y_X5_binaryOp]) ?_
      exact Ey_so hb
    | 2 =>
      refine Ey_eq (by rw [y_X5_binaryOp]) ?_
      exact Ey_so hb
    | 3 =>
      refine Ey_eq (by rw [y_X5_binaryOp]) ?_
      exact Ey_so hb
    | 4 =>
      refine Ey_eq (by rw [y_X5_binaryOp]) ?_
      exact Ey_so hb
    | 5 =>
      refine Ey_eq (by rw [y_X5_binaryOp]) ?_
      exact Ey_so hb
    | 6 =>
      refine Ey_eq (by rw [y_X5_binaryOp]) ?_
      exact Ey_so hb
    | 7 =>
      refine Ey_eq (by rw [y_X5_binaryOp]) ?_
      exact Ey_so hb
    | 8 =>
      refine Ey_eq (by rw [y_X5_binaryOp]) ?_
      exact Ey_so hb
    | 9 =>
      refine Ey_eq (by rw [y_X5_binaryOp]) ?_
      exact Ey_so hb
    | 10 =>
      refine Ey_eq (by rw [y_X5_binaryOp]) ?_
      exact Ey_so hb
    | b + 11 =>
      exact Ey_eq (by rw [y_X5_binaryOp]) Ey_no
theorem k7_y_X5_postponedLevel : ∀ (k b : Nat) (L : LV) (σ : CS), K7 w σ → Ey w (y_X5_postponedLevel k b L σ) := by
  intro k
  induction k with
  | zero => intro b L σ _; exact Ey_no
  | succ k ih =>
    intro b L σ hb
    match b with
    | 0 =>
      refine Ey_eq (by rw [y_X5_postponedLevel]) ?_
      exact Ey_ite (ih _ _ _ hb) (Ey_ite (ih _ _ _ hb) (Ey_no))
    | 1 =>
      refine Ey_eq (by rw [y_X5_postponedLevel]) ?_
      exact ih _ _ _ hb
    | 2 =>
      refine Ey_eq (by rw [y_X5_postponedLevel]) ?_
      exact Ey_so hb
    | b + 3 =>
      exact Ey_eq (by rw [y_X5_postponedLevel]) Ey_no
theorem k7_y_X5_wordOp : ∀ (k b : Nat) (L : LV) (σ : CS), K7 w σ → Ey w (y_X5_wordOp k b L σ) := by
  intro k
  induction k with
  | zero => intro b L σ _; exact Ey_no
  | succ k ih =>
    intro b L σ hb
    match b with
    | 0 =>
      refine Ey_eq (by rw [y_X5_wordOp]) ?_
      exact Ey_ite (ih _ _ _ hb) (Ey_ite (ih _ _ _ hb) (Ey_so hb))
    | 1 =>
      refine Ey_eq (by rw [y_X5_wordOp]) ?_
      exact Ey_ite (ih _ _ _ hb) (ih _ _ _ hb)
    | 2 =>
      refine Ey_eq (by rw [y_X5_wordOp]) ?_
      exact ih _ _ _ hb
    | 3 =>
      refine Ey_eq (by rw [y_X5_wordOp]) ?_
      exact Ey_so hb
    | b + 4 =>
      exact Ey_eq (by rw [y_X5_wordOp]) Ey_no
theorem k7_y_X6_put : ∀ (k b : Nat) (L : LV) (σ : CS), K7 w σ → Ey w (y_X6_put k b L σ) := by
  intro k
  induction k with
  | zero => intro b L σ _; exact Ey_no
  | succ k ih =>
    intro b L σ hb
    match b with
    | 0 =>
      refine Ey_eq (by rw [y_X6_put]) ?_
      exact Ey_ite (ih _ _ _ hb) (Ey_ite (ih _ _ _ (uI_K7 (by decide) (uA_K7 (by decide) hb))) (Ey_no))
    | 1 =>
      refine Ey_eq (by rw [y_X6_put]) ?_
      exact Ey_so hb
    | b + 2 =>
      exact Ey_eq (by rw [y_X6_put]) Ey_no
theorem k7_y_X1_copyBytes__a13 : ∀ (k b : Nat) (L : LV) (σ : CS), K7 w σ → Ey w (y_X1_copyBytes__a13 k b L σ) := by
  intro k
  induction k with
  | zero => intro b L σ _; exact Ey_no
  | succ k ih =>
    intro b L σ hb
    match b with
    | 0 =>
      refine Ey_eq (by rw [y_X1_copyBytes__a13]) ?_
      exact ih _ _ _ hb
    | 1 =>
      refine Ey_eq (by rw [y_X1_copyBytes__a13]) ?_
      exact Ey_ite (ih _ _ _ hb) (Ey_ite (ih _ _ _ hb) (Ey_ite (ih _ _ _ hb) (ih _ _ _ hb)))
    | 2 =>
      refine Ey_eq (by rw [y_X1_copyBytes__a13]) ?_
      exact Ey_so hb
    | 3 =>
      refine Ey_eq (by rw [y_X1_copyBytes__a13]) ?_
      exact Ey_ite (ih _ _ _ hb) (Ey_no)
    | 4 =>
      refine Ey_eq (by rw [y_X1_copyBytes__a13]) ?_
      exact Ey_ite (ih _ _ _ (uA_K7 (by decide) hb)) (Ey_no)
    | b + 5 =>
      exact Ey_eq (by rw [y_X1_copyBytes__a13]) Ey_no
theorem k7_y_X6_writeBytes : ∀ (k b : Nat) (L : LV) (σ : CS), K7 w σ → Ey w (y_X6_writeBytes k b L σ) := by
  intro k
  induction k with
  | zero => intro b L σ _; exact Ey_no
  | succ k ih =>
    intro b L σ hb
    match b with
    | 0 =>
      refine Ey_eq (by rw [y_X6_writeBytes]) ?_
      exact Ey_oc (k7_y_X1_length _ _ _ _ hb) (fun _ h413 => Ey_oc (k7_y_X1_copyBytes__a13 _ _ _ _ h413) (fun _ h414 => Ey_so (uI_K7 (by decide) h414)))
    | b + 1 =>
      exact Ey_eq (by rw [y_X6_writeBytes]) Ey_no
theorem k7_y_X1_makeString__a13 : ∀ (k b : Nat) (L : LV) (σ : CS), K7 w σ → Ey w (y_X1_makeString__a13 k b L σ) := by
  intro k
  induction k with
  | zero => intro b L σ _; exact Ey_no
  | succ k ih =>
    intro b L σ hb
    match b with
    | 0 =>
      refine Ey_eq (by rw [y_X1_makeString__a13]) ?_
      exact Ey_ite (ih _ _ _ hb) (Ey_ite (ih _ _ _ hb) (ih _ _ _ hb))
    | 1 =>
      refine Ey_eq (by rw [y_X1_makeString__a13]) ?_
      exact Ey_ite (ih _ _ _ hb) (Ey_so hb)
    | 2 =>
      refine Ey_eq (by rw [y_X1_makeString__a13]) ?_
      exact Ey_ite (ih _ _ _ hb) (Ey_no)
    | 3 =>
      refine Ey_eq (by rw [y_X1_makeString__a13]) ?_
      exact Ey_so hb
    | 4 =>
      refine Ey_eq (by rw [y_X1_makeString__a13]) ?_
      exact Ey_ite (ih _ _ _ hb) (Ey_so hb)
    | 5 =>
      refine Ey_eq (by rw [y_X1_makeString__a13]) ?_
      exact Ey_oc (k7_y_X1_header _ _ _ _ (uI_K7 (by decide) hb)) (fun _ h415 => Ey_ite (ih _ _ _ (uA_K7 (by decide) h415)) (Ey_no))
    | 6 =>
      refine Ey_eq (by rw [y_X1_makeString__a13]) ?_
      exact ih _ _ _ hb
    | 7 =>
      refine Ey_eq (by rw [y_X1_makeString__a13]) ?_
      exact Ey_ite (ih _ _ _ hb) (Ey_ite (Ey_ite (ih _ _ _ hb) (Ey_ite (ih _ _ _ hb) (ih _ _ _ hb))) (Ey_no))
    | 8 =>
      refine Ey_eq (by rw [y_X1_makeString__a13]) ?_
      exact Ey_so hb
    | 9 =>
      refine Ey_eq (by rw [y_X1_makeString__a13]) ?_
      exact Ey_ite (ih _ _ _ (uA_K7 (by decide) hb)) (Ey_no)
    | 10 =>
      refine Ey_eq (by rw [y_X1_makeString__a13]) ?_
      exact ih _ _ _ hb
    | b + 11 =>
      exact Ey_eq (by rw [y_X1_makeString__a13]) Ey_no
theorem k7_y_X6_madeString : ∀ (k b : Nat) (L : LV) (σ : CS), K7 w σ → Ey w (y_X6_madeString k b L σ) := by
  intro k
  induction k with
  | zero => intro b L σ _; exact Ey_no
  | succ k ih =>
    intro b L σ hb
    match b with
    | 0 =>
      refine Ey_eq (by rw [y_X6_madeString]) ?_
      exact Ey_oc (k7_y_X1_makeString__a13 _ _ _ _ hb) (fun _ h416 => Ey_so h416)
    | b + 1 =>
      exact Ey_eq (by rw [y_X6_madeString]) Ey_no
theorem k7_y_X7_moveDown__P : ∀ (k b : Nat) (L : LV) (σ : CS), K7 w σ → Ey w (y_X7_moveDown__P k b L σ) := by
  intro k
  induction k with
  | zero => intro b L σ _; exact Ey_no
  | succ k ih =>
    intro b L σ hb
    match b with
    | 0 =>
      refine Ey_eq (by rw [y_X7_moveDown__P]) ?_
      exact Ey_ite (ih _ _ _ (uF_K7 (n7_0 _) (uI_K7 (fP_7 _ (by decide) (by decide) (by decide)) (uI_K7 (fP_7 _ (by decide) (by decide) (by decide)) hb)))) (Ey_no)
    | 1 =>
      refine Ey_eq (by rw [y_X7_moveDown__P]) ?_
      exact ih _ _ _ hb
    | 2 =>
      refine Ey_eq (by rw [y_X7_moveDown__P]) ?_
      exact Ey_ite (ih _ _ _ hb) (Ey_ite (Ey_ite (ih _ _ _ (uA_K7 (n7_13 _) hb)) (Ey_no)) (Ey_no))
    | 3 =>
      refine Ey_eq (by rw [y_X7_moveDown__P]) ?_
      exact Ey_so hb
    | b + 4 =>
      exact Ey_eq (by rw [y_X7_moveDown__P]) Ey_no
theorem k7_y_X7_mode__P : ∀ (k b : Nat) (L : LV) (σ : CS), K7 w σ → Ey w (y_X7_mode__P k b L σ) := by
  intro k
  induction k with
  | zero => intro b L σ _; exact Ey_no
  | succ k ih =>
    intro b L σ hb
    match b with
    | 0 =>
      refine Ey_eq (by rw [y_X7_mode__P]) ?_
      exact Ey_ite (Ey_so hb) (Ey_no)
    | b + 1 =>
      exact Ey_eq (by rw [y_X7_mode__P]) Ey_no
theorem k7_y_X7_found__P : ∀ (k b : Nat) (L : LV) (σ : CS), K7 w σ → Ey w (y_X7_found__P k b L σ) := by
  intro k
  induction k with
  | zero => intro b L σ _; exact Ey_no
  | succ k ih =>
    intro b L σ hb
    match b with
    | 0 =>
      refine Ey_eq (by rw [y_X7_found__P]) ?_
      exact ih _ _ _ hb
    | 1 =>
      refine Ey_eq (by rw [y_X7_found__P]) ?_
      exact Ey_ite (ih _ _ _ hb) (Ey_ite (Ey_ite (Ey_ite (Ey_ite (Ey_ite (Ey_ite (Ey_so hb) (ih _ _ _ hb)) (Ey_no)) (ih _ _ _ hb)) (Ey_no)) (ih _ _ _ hb)) (Ey_no))
    | 2 =>
      refine Ey_eq (by rw [y_X7_found__P]) ?_
      exact Ey_so hb
    | 3 =>
      refine Ey_eq (by rw [y_X7_found__P]) ?_
      exact ih _ _ _ hb
    | b + 4 =>
      exact Ey_eq (by rw [y_X7_found__P]) Ey_no
theorem k7_y_X7_isToldFrom__P : ∀ (k b : Nat) (L : LV) (σ : CS), K7 w σ → Ey w (y_X7_isToldFrom__P k b L σ) := by
  intro k
  induction k with
  | zero => intro b L σ _; exact Ey_no
  | succ k ih =>
    intro b L σ hb
    match b with
    | 0 =>
      refine Ey_eq (by rw [y_X7_isToldFrom__P]) ?_
      exact ih _ _ _ hb
    | 1 =>
      refine Ey_eq (by rw [y_X7_isToldFrom__P]) ?_
      exact Ey_ite (ih _ _ _ hb) (Ey_ite (Ey_ite (Ey_ite (Ey_ite (Ey_so hb) (ih _ _ _ hb)) (Ey_no)) (ih _ _ _ hb)) (Ey_no))
    | 2 =>
      refine Ey_eq (by rw [y_X7_isToldFrom__P]) ?_
      exact Ey_so hb
    | 3 =>
      refine Ey_eq (by rw [y_X7_isToldFrom__P]) ?_
      exact ih _ _ _ hb
    | b + 4 =>
      exact Ey_eq (by rw [y_X7_isToldFrom__P]) Ey_no
theorem k7_y_X7_tell__P : ∀ (k b : Nat) (L : LV) (σ : CS), K7 w σ → Ey w (y_X7_tell__P k b L σ) := by
  intro k
  induction k with
  | zero => intro b L σ _; exact Ey_no
  | succ k ih =>
    intro b L σ hb
    match b with
    | 0 =>
      refine Ey_eq (by rw [y_X7_tell__P]) ?_
      exact Ey_ite (ih _ _ _ hb) (Ey_ite (Ey_ite (Ey_ite (ih _ _ _ (uA_K7 (n7_7 _) (uJ_K7 (uJ_K7 hb)))) (Ey_no)) (Ey_no)) (Ey_no))
    | 1 =>
      refine Ey_eq (by rw [y_X7_tell__P]) ?_
      exact Ey_so hb
    | 2 =>
      refine Ey_eq (by rw [y_X7_tell__P]) ?_
      exact Ey_ite (Ey_ite (Ey_ite (ih _ _ _ (uA_K7 (n7_10 _) (uA_K7 (n7_9 _) (uA_K7 (n7_8 _) hb)))) (Ey_no)) (Ey_no)) (Ey_no)
    | 3 =>
      refine Ey_eq (by rw [y_X7_tell__P]) ?_
      exact ih _ _ _ (uI_K7 (fP_7 _ (by decide) (by decide) (by decide)) hb)
    | b + 4 =>
      exact Ey_eq (by rw [y_X7_tell__P]) Ey_no
theorem k7_y_X7_newSlots__P : ∀ (k b : Nat) (L : LV) (σ : CS), K7 w σ → Ey w (y_X7_newSlots__P k b L σ) := by
  intro k
  induction k with
  | zero => intro b L σ _; exact Ey_no
  | succ k ih =>
    intro b L σ hb
    match b with
    | 0 =>
      refine Ey_eq (by rw [y_X7_newSlots__P]) ?_
      exact Ey_ite (Ey_ite (Ey_ite (Ey_so (uA_K7 (n7_18 _) hb)) (Ey_no)) (Ey_no)) (Ey_no)
    | b + 1 =>
      exact Ey_eq (by rw [y_X7_newSlots__P]) Ey_no
theorem k7_y_X7_newPassing__P : ∀ (k b : Nat) (L : LV) (σ : CS), K7 w σ → Ey w (y_X7_newPassing__P k b L σ) := by
  intro k
  induction k with
  | zero => intro b L σ _; exact Ey_no
  | succ k ih =>
    intro b L σ hb
    match b with
    | 0 =>
      refine Ey_eq (by rw [y_X7_newPassing__P]) ?_
      exact Ey_so (uI_K7 (fP_7 _ (by decide) (by decide) (by decide)) hb)
    | b + 1 =>
      exact Ey_eq (by rw [y_X7_newPassing__P]) Ey_no
theorem k7_y_X9_drop : ∀ (k b : Nat) (L : LV) (σ : CS), K7 w σ → Ey w (y_X9_drop k b L σ) := by
  intro k
  induction k with
  | zero => intro b L σ _; exact Ey_no
  | succ k ih =>
    intro b L σ hb
    match b with
    | 0 =>
      refine Ey_eq (by rw [y_X9_drop]) ?_
      exact ih _ _ _ (uI_K7 (by decide) (uI_K7 (by decide) (uI_K7 (by decide) hb)))
    | 1 =>
      refine Ey_eq (by rw [y_X9_drop]) ?_
      exact Ey_so hb
    | b + 2 =>
      exact Ey_eq (by rw [y_X9_drop]) Ey_no
theorem k7_y_X9_empty : ∀ (k b : Nat) (L : LV) (σ : CS), K7 w σ → Ey w (y_X9_empty k b L σ) := by
  intro k
  induction k with
  | zero => intro b L σ _; exact Ey_no
  | succ k ih =>
    intro b L σ hb
    match b with
    | 0 =>
      refine Ey_eq (by rw [y_X9_empty]) ?_
      exact Ey_oc (k7_y_X9_drop _ _ _ _ hb) (fun _ h417 => ih _ _ _ (uI_K7 (by decide) (uI_K7 (by decide) (uI_K7 (by decide) h417))))
    | 1 =>
      refine Ey_eq (by rw [y_X9_empty]) ?_
      exact Ey_so hb
    | b + 2 =>
      exact Ey_eq (by rw [y_X9_empty]) Ey_no
theorem k7_y_X9_expect : ∀ (k b : Nat) (L : LV) (σ : CS), K7 w σ → Ey w (y_X9_expect k b L σ) := by
  intro k
  induction k with
  | zero => intro b L σ _; exact Ey_no
  | succ k ih =>
    intro b L σ hb
    match b with
    | 0 =>
      refine Ey_eq (by rw [y_X9_expect]) ?_
      exact Ey_ite (ih _ _ _ hb) (ih _ _ _ hb)
    | 1 =>
      refine Ey_eq (by rw [y_X9_expect]) ?_
      exact ih _ _ _ hb
    | 2 =>
      refine Ey_eq (by rw [y_X9_expect]) ?_
      exact Ey_so (uI_K7 (by decide) hb)
    | b + 3 =>
      exact Ey_eq (by rw [y_X9_expect]) Ey_no
theorem k7_y_X9_newest : ∀ (k b : Nat) (L : LV) (σ : CS), K7 w σ → Ey w (y_X9_newest k b L σ) := by
  intro k
  induction k with
  | zero => intro b L σ _; exact Ey_no
  | succ k ih =>
    intro b L σ hb
    match b with
    | 0 =>
      refine Ey_eq (by rw [y_X9_newest]) ?_
      exact Ey_ite (ih _ _ _ hb) (Ey_ite (Ey_ck (fun h9 => Ey_ite (ih _ _ _ hb) (ih _ _ _ hb))) (Ey_no))
    | 1 =>
      refine Ey_eq (by rw [y_X9_newest]) ?_
      exact ih _ _ _ hb
    | 2 =>
      refine Ey_eq (by rw [y_X9_newest]) ?_
      exact ih _ _ _ hb
    | 3 =>
      refine Ey_eq (by rw [y_X9_newest]) ?_
      exact Ey_ite (ih _ _ _ hb) (Ey_ite (Ey_ck (fun h9 => Ey_ite (ih _ _ _ hb) (Ey_ite (ih _ _ _ hb) (Ey_ite (Ey_ck (fun h9 => Ey_ite (Ey_ck (fun h9 => Ey_ite (ih _ _ _ hb) (ih _ _ _ hb))) (Ey_no))) (Ey_no))))) (Ey_no))
    | 4 =>
      refine Ey_eq (by rw [y_X9_newest]) ?_
      exact Ey_so hb
    | 5 =>
      refine Ey_eq (by rw [y_X9_newest]) ?_
      exact ih _ _ _ hb
    | 6 =>
      refine Ey_eq (by rw [y_X9_newest]) ?_
      exact ih _ _ _ hb
    | b + 7 =>
      exact Ey_eq (by rw [y_X9_newest]) Ey_no
theorem k7_y_X10_load__a7 : ∀ (k b : Nat) (L : LV) (σ : CS), K7 w σ → Ey w (y_X10_load__a7 k b L σ) := by
  intro k
  induction k with
  | zero => intro b L σ _; exact Ey_no
  | succ k ih =>
    intro b L σ hb
    match b with
    | 0 =>
      refine Ey_eq (by rw [y_X10_load__a7]) ?_
      exact Ey_ite (ih _ _ _ hb) (Ey_ite (ih _ _ _ hb) (ih _ _ _ hb))
    | 1 =>
      refine Ey_eq (by rw [y_X10_load__a7]) ?_
      exact Ey_ite (Ey_ite (Ey_so (uF_K7 (by decide) hb)) (Ey_no)) (Ey_no)
    | 2 =>
      refine Ey_eq (by rw [y_X10_load__a7]) ?_
      exact ih _ _ _ hb
    | 3 =>
      refine Ey_eq (by rw [y_X10_load__a7]) ?_
      exact Ey_ite (Ey_ite (ih _ _ _ (uA_K7 (by decide) hb)) (ih _ _ _ (uA_K7 (by decide) hb))) (Ey_no)
    | 4 =>
      refine Ey_eq (by rw [y_X10_load__a7]) ?_
      exact ih _ _ _ hb
    | 5 =>
      refine Ey_eq (by rw [y_X10_load__a7]) ?_
      exact Ey_so hb
    | b + 6 =>
      exact Ey_eq (by rw [y_X10_load__a7]) Ey_no
theorem k7_y_X10_negated : ∀ (k b : Nat) (L : LV) (σ : CS), K7 w σ → Ey w (y_X10_negated k b L σ) := by
  intro k
  induction k with
  | zero => intro b L σ _; exact Ey_no
  | succ k ih =>
    intro b L σ hb
    match b with
    | 0 =>
      refine Ey_eq (by rw [y_X10_negated]) ?_
      exact Ey_oc (k7_y_X10_load__a7 _ _ _ _ hb) (fun _ h418 => Ey_oc (k7_y_X10_isBelow _ _ _ _ h418) (fun _ h419 => Ey_ite (ih _ _ _ h419) (ih _ _ _ h419)))
    | 1 =>
      refine Ey_eq (by rw [y_X10_negated]) ?_
      exact ih _ _ _ hb
    | 2 =>
      refine Ey_eq (by rw [y_X10_negated]) ?_
      exact Ey_oc (k7_y_X10_made _ _ _ _ hb) (fun _ h420 => Ey_so h420)
    | b + 3 =>
      exact Ey_eq (by rw [y_X10_negated]) Ey_no
theorem k7_y_X10_absolute : ∀ (k b : Nat) (L : LV) (σ : CS), K7 w σ → Ey w (y_X10_absolute k b L σ) := by
  intro k
  induction k with
  | zero => intro b L σ _; exact Ey_no
  | succ k ih =>
    intro b L σ hb
    match b with
    | 0 =>
      refine Ey_eq (by rw [y_X10_absolute]) ?_
      exact Ey_oc (k7_y_X10_isBelow _ _ _ _ hb) (fun _ h421 => Ey_ite (ih _ _ _ h421) (Ey_oc (k7_y_X10_negated _ _ _ _ h421) (fun _ h422 => ih _ _ _ h422)))
    | 1 =>
      refine Ey_eq (by rw [y_X10_absolute]) ?_
      exact ih _ _ _ hb
    | 2 =>
      refine Ey_eq (by rw [y_X10_absolute]) ?_
      exact Ey_so hb
    | b + 3 =>
      exact Ey_eq (by rw [y_X10_absolute]) Ey_no
theorem k7_y_X10_resultLimb : ∀ (k b : Nat) (L : LV) (σ : CS), K7 w σ → Ey w (y_X10_resultLimb k b L σ) := by
  intro k
  induction k with
  | zero => intro b L σ _; exact Ey_no
  | succ k ih =>
    intro b L σ hb
    match b with
    | 0 =>
      refine Ey_eq (by rw [y_X10_resultLimb]) ?_
      exact Ey_ite (ih _ _ _ hb) (Ey_ite (ih _ _ _ hb) (Ey_ite (ih _ _ _ hb) (Ey_no)))
    | 1 =>
      refine Ey_eq (by rw [y_X10_resultLimb]) ?_
      exact ih _ _ _ hb
    | 2 =>
      refine Ey_eq (by rw [y_X10_resultLimb]) ?_
      exact Ey_so hb
    | b + 3 =>
      exact Ey_eq (by rw [y_X10_resultLimb]) Ey_no
theorem k7_y_X10_takeBillion : ∀ (k b : Nat) (L : LV) (σ : CS), K7 w σ → Ey w (y_X10_takeBillion k b L σ) := by
  intro k
  induction k with
  | zero => intro b L σ _; exact Ey_no
  | succ k ih =>
    intro b L σ hb
    match b with
    | 0 =>
      refine Ey_eq (by rw [y_X10_takeBillion]) ?_
      exact ih _ _ _ hb
    | 1 =>
      refine Ey_eq (by rw [y_X10_takeBillion]) ?_
      exact Ey_ite (ih _ _ _ hb) (Ey_ite (Ey_ite (Ey_no) (Ey_ite (Ey_ite (Ey_no) (ih _ _ _ (uA_K7 (by decide) hb))) (Ey_no))) (Ey_no))
    | 2 =>
      refine Ey_eq (by rw [y_X10_takeBillion]) ?_
      exact Ey_so hb
    | b + 3 =>
      exact Ey_eq (by rw [y_X10_takeBillion]) Ey_no
theorem k7_y_X11_fault : ∀ (k b : Nat) (L : LV) (σ : CS), K7 w σ → Ey w (y_X11_fault k b L σ) := by
  intro k
  induction k with
  | zero => intro b L σ _; exact Ey_no
  | succ k ih =>
    intro b L σ hb
    match b with
    | 0 =>
      refine Ey_eq (by rw [y_X11_fault]) ?_
      exact Ey_so hb
    | b + 1 =>
      exact Ey_eq (by rw [y_X11_fault]) Ey_no
theorem k7_y_X11_renew : ∀ (k b : Nat) (L : LV) (σ : CS), K7 w σ → Ey w (y_X11_renew k b L σ) := by
  intro k
  induction k with
  | zero => intro b L σ _; exact Ey_no
  | succ k ih =>
    intro b L σ hb
    match b with
    | 0 =>
      refine Ey_eq (by rw [y_X11_renew]) ?_
      exact Ey_ite (Ey_ite (Ey_oc (k7_y_X1_same _ _ _ _ hb) (fun _ h423 => Ey_ite (ih _ _ _ h423) (ih _ _ _ h423))) (Ey_no)) (Ey_no)
    | 1 =>
      refine Ey_eq (by rw [y_X11_renew]) ?_
      exact ih _ _ _ hb
    | 2 =>
      refine Ey_eq (by rw [y_X11_renew]) ?_
      exact Ey_oc (k7_y_X1_kind _ _ _ _ hb) (fun _ h424 => Ey_ite (Ey_oc (k7_y_X1_kind _ _ _ _ h424) (fun _ h425 => Ey_ite (ih _ _ _ h425) (ih _ _ _ h425))) (ih _ _ _ h424))
    | 3 =>
      refine Ey_eq (by rw [y_X11_renew]) ?_
      exact ih _ _ _ hb
    | 4 =>
      refine Ey_eq (by rw [y_X11_renew]) ?_
      exact Ey_ite (Ey_ite (Ey_ite (Ey_ite (ih _ _ _ (uA_K7 (by decide) (uA_K7 (by decide) (uA_K7 (by decide) hb)))) (Ey_no)) (Ey_no)) (ih _ _ _ (uA_K7 (by decide) hb))) (Ey_no)
    | 5 =>
      refine Ey_eq (by rw [y_X11_renew]) ?_
      exact Ey_ite (ih _ _ _ hb) (Ey_oc (k7_y_X0_binary _ _ _ _ hb) (fun _ h426 => Ey_ite (Ey_oc (k7_y_X0_binary _ _ _ _ (uA_K7 (by decide) h426)) (fun _ h427 => Ey_ite (ih _ _ _ (uA_K7 (by decide) h427)) (Ey_no))) (Ey_no)))
    | 6 =>
      refine Ey_eq (by rw [y_X11_renew]) ?_
      exact ih _ _ _ hb
    | 7 =>
      refine Ey_eq (by rw [y_X11_renew]) ?_
      exact Ey_ite (Ey_ite (ih _ _ _ (uA_K7 (by decide) (uA_K7 (by decide) hb))) (Ey_no)) (Ey_no)
    | 8 =>
      refine Ey_eq (by rw [y_X11_renew]) ?_
      exact Ey_ite (Ey_so hb) (Ey_no)
    | b + 9 =>
      exact Ey_eq (by rw [y_X11_renew]) Ey_no
theorem k7_y_X11_order : ∀ (k b : Nat) (L : LV) (σ : CS), K7 w σ → Ey w (y_X11_order k b L σ) := by
  intro k
  induction k with
  | zero => intro b L σ _; exact Ey_no
  | succ k ih =>
    intro b L σ hb
    match b with
    | 0 =>
      refine Ey_eq (by rw [y_X11_order]) ?_
      exact Ey_ite (ih _ _ _ hb) (ih _ _ _ hb)
    | 1 =>
      refine Ey_eq (by rw [y_X11_order]) ?_
      exact Ey_ite (Ey_ite (Ey_oc (k7_y_X1_compare _ _ _ _ hb) (fun _ h428 => ih _ _ _ h428)) (Ey_no)) (Ey_no)
    | 2 =>
      refine Ey_eq (by rw [y_X11_order]) ?_
      exact Ey_so hb
    | b + 3 =>
      exact Ey_eq (by rw [y_X11_order]) Ey_no
theorem k7_y_X10_writeChunk__a13 : ∀ (k b : Nat) (L : LV) (σ : CS), K7 w σ → Ey w (y_X10_writeChunk__a13 k b L σ) := by
  intro k
  induction k with
  | zero => intro b L σ _; exact Ey_no
  | succ k ih =>
    intro b L σ hb
    match b with
    | 0 =>
      refine Ey_eq (by rw [y_X10_writeChunk__a13]) ?_
      exact ih _ _ _ hb
    | 1 =>
      refine Ey_eq (by rw [y_X10_writeChunk__a13]) ?_
      exact Ey_ite (ih _ _ _ hb) (Ey_ite (ih _ _ _ hb) (Ey_ite (ih _ _ _ hb) (Ey_ite (Ey_no) (ih _ _ _ hb))))
    | 2 =>
      refine Ey_eq (by rw [y_X10_writeChunk__a13]) ?_
      exact ih _ _ _ hb
    | 3 =>
      refine Ey_eq (by rw [y_X10_writeChunk__a13]) ?_
      exact Ey_ite (ih _ _ _ hb) (Ey_ite (Ey_no) (Ey_ite (Ey_ite (Ey_no) (ih _ _ _ (uA_K7 (by decide) hb))) (Ey_no)))
    | 4 =>
      refine Ey_eq (by rw [y_X10_writeChunk__a13]) ?_
      exact Ey_so hb
    | b + 5 =>
      exact Ey_eq (by rw [y_X10_writeChunk__a13]) Ey_no
theorem k7_y_X10_writeDigits__a13 : ∀ (k b : Nat) (L : LV) (σ : CS), K7 w σ → Ey w (y_X10_writeDigits__a13 k b L σ) := by
  intro k
  induction k with
  | zero => intro b L σ _; exact Ey_no
  | succ k ih =>
    intro b L σ hb
    match b with
    | 0 =>
      refine Ey_eq (by rw [y_X10_writeDigits__a13]) ?_
      exact Ey_ite (ih _ _ _ hb) (Ey_ite (ih _ _ _ hb) (ih _ _ _ hb))
    | 1 =>
      refine Ey_eq (by rw [y_X10_writeDigits__a13]) ?_
      exact Ey_so hb
    | 2 =>
      refine Ey_eq (by rw [y_X10_writeDigits__a13]) ?_
      exact Ey_oc (k7_y_X10_isBelow _ _ _ _ hb) (fun _ h429 => Ey_ite (ih _ _ _ h429) (Ey_ite (ih _ _ _ (uA_K7 (by decide) h429)) (Ey_no)))
    | 3 =>
      refine Ey_eq (by rw [y_X10_writeDigits__a13]) ?_
      exact Ey_oc (k7_y_X10_load__a5 _ _ _ _ hb) (fun _ h430 => ih _ _ _ h430)
    | 4 =>
      refine Ey_eq (by rw [y_X10_writeDigits__a13]) ?_
      exact Ey_ite (ih _ _ _ hb) (Ey_ite (ih _ _ _ hb) (Ey_ite (ih _ _ _ hb) (ih _ _ _ hb)))
    | 5 =>
      refine Ey_eq (by rw [y_X10_writeDigits__a13]) ?_
      exact ih _ _ _ hb
    | 6 =>
      refine Ey_eq (by rw [y_X10_writeDigits__a13]) ?_
      exact Ey_oc (k7_y_X10_takeBillion _ _ _ _ hb) (fun _ h431 => Ey_ite (Ey_ite (ih _ _ _ (uA_K7 (by decide) h431)) (Ey_ite (Ey_ite (ih _ _ _ (uA_K7 (by decide) h431)) (ih _ _ _ (uA_K7 (by decide) h431))) (Ey_no))) (Ey_no))
    | 7 =>
      refine Ey_eq (by rw [y_X10_writeDigits__a13]) ?_
      exact Ey_ite (ih _ _ _ hb) (Ey_ite (Ey_ite (ih _ _ _ hb) (ih _ _ _ hb)) (Ey_no))
    | 8 =>
      refine Ey_eq (by rw [y_X10_writeDigits__a13]) ?_
      exact ih _ _ _ hb
    | 9 =>
      refine Ey_eq (by rw [y_X10_writeDigits__a13]) ?_
      exact ih _ _ _ hb
    | 10 =>
      refine Ey_eq (by rw [y_X10_writeDigits__a13]) ?_
      exact Ey_so hb
    | 11 =>
      refine Ey_eq (by rw [y_X10_writeDigits__a13]) ?_
      exact ih _ _ _ hb
    | 12 =>
      refine Ey_eq (by rw [y_X10_writeDigits__a13]) ?_
      exact Ey_oc (k7_y_X10_writeChunk__a13 _ _ _ _ hb) (fun _ h432 => ih _ _ _ h432)
    | b + 13 =>
      exact Ey_eq (by rw [y_X10_writeDigits__a13]) Ey_no
theorem k7_f_X6_writeWord__ek14 : ∀ (k b : Nat) (L : LV) (σ : CS), K7 w σ → Ef w (f_X6_writeWord__ek14 k b L σ) := by
  intro k
  induction k with
  | zero => intro b L σ _; exact Ef_no
  | succ k ih =>
    intro b L σ hb
    match b with
    | 0 =>
      refine Ef_eq (by rw [f_X6_writeWord__ek14]) ?_
      exact ih _ _ _ hb
    | 1 =>
      refine Ef_eq (by rw [f_X6_writeWord__ek14]) ?_
      exact Ef_ite (ih _ _ _ hb) (Ef_ite (Ef_op (k7_y_X6_put _ _ _ _ hb) (fun _ h433 => ih _ _ _ h433)) (Ef_no))
    | 2 =>
      refine Ef_eq (by rw [f_X6_writeWord__ek14]) ?_
      exact Ef_so hb
    | b + 3 =>
      exact Ef_eq (by rw [f_X6_writeWord__ek14]) Ef_no
theorem k7_f_X6_writeWord__ek16 : ∀ (k b : Nat) (L : LV) (σ : CS), K7 w σ → Ef w (f_X6_writeWord__ek16 k b L σ) := by
  intro k
  induction k with
  | zero => intro b L σ _; exact Ef_no
  | succ k ih =>
    intro b L σ hb
    match b with
    | 0 =>
      refine Ef_eq (by rw [f_X6_writeWord__ek16]) ?_
      exact ih _ _ _ hb
    | 1 =>
      refine Ef_eq (by rw [f_X6_writeWord__ek16]) ?_
      exact Ef_ite (ih _ _ _ hb) (Ef_ite (Ef_op (k7_y_X6_put _ _ _ _ hb) (fun _ h434 => ih _ _ _ h434)) (Ef_no))
    | 2 =>
      refine Ef_eq (by rw [f_X6_writeWord__ek16]) ?_
      exact Ef_so hb
    | b + 3 =>
      exact Ef_eq (by rw [f_X6_writeWord__ek16]) Ef_no
theorem k7_f_X6_writeWord__ek18 : ∀ (k b : Nat) (L : LV) (σ : CS), K7 w σ → Ef w (f_X6_writeWord__ek18 k b L σ) := by
  intro k
  induction k with
  | zero => intro b L σ _; exact Ef_no
  | succ k ih =>
    intro b L σ hb
    match b with
    | 0 =>
      refine Ef_eq (by rw [f_X6_writeWord__ek18]) ?_
      exact ih _ _ _ hb
    | 1 =>
      refine Ef_eq (by rw [f_X6_writeWord__ek18]) ?_
      exact Ef_ite (ih _ _ _ hb) (Ef_ite (Ef_op (k7_y_X6_put _ _ _ _ hb) (fun _ h435 => ih _ _ _ h435)) (Ef_no))
    | 2 =>
      refine Ef_eq (by rw [f_X6_writeWord__ek18]) ?_
      exact Ef_so hb
    | b + 3 =>
      exact Ef_eq (by rw [f_X6_writeWord__ek18]) Ef_no
theorem k7_t_X6_write {X : Nat → Nat → Nat → LV → CS → Option RS} (hX : ∀ e m b L (σ : CS), K7 w σ → Ef w (X e m b L σ)) (K d b : Nat) (L : LV) (σ : CS) (hb : K7 w σ) : Ef w (t_X6_write X K d b L σ) := by
  match b with
  | 0 => exact Ef_op (k7_y_X1_kind _ _ _ _ hb) (fun _ h436 => Ef_ite (hX _ _ _ _ _ h436) (Ef_ite (hX _ _ _ _ _ h436) (Ef_ite (hX _ _ _ _ _ h436) (Ef_ite (hX _ _ _ _ _ h436) (Ef_ite (hX _ _ _ _ _ h436) (Ef_ite (hX _ _ _ _ _ h436) (hX _ _ _ _ _ h436)))))))
  | 1 => exact Ef_ite (hX _ _ _ _ _ hb) (hX _ _ _ _ _ hb)
  | 2 => exact Ef_op (k7_y_X10_writeDigits__a13 _ _ _ _ hb) (fun _ h437 => hX _ _ _ _ _ (uI_K7 (by decide) h437))
  | 3 => exact Ef_op (k7_y_X6_put _ _ _ _ hb) (fun _ h438 => Ef_op (k7_y_X10_small _ _ _ _ h438) (fun _ h439 => Ef_op (k7_y_X10_writeDigits__a13 _ _ _ _ h439) (fun _ h440 => hX _ _ _ _ _ (uI_K7 (by decide) h440))))
  | 4 => exact Ef_op (k7_y_X6_put _ _ _ _ hb) (fun _ h441 => Ef_op (k7_y_X6_writeBytes _ _ _ _ h441) (fun _ h442 => Ef_op (k7_y_X6_put _ _ _ _ h442) (fun _ h443 => hX _ _ _ _ _ h443)))
  | 5 => exact Ef_of (fun _ => Ef_ox (hX _ _ _ _ _ hb) (fun _ h444 => hX _ _ _ _ _ h444))
  | 6 => exact Ef_of (fun _ => Ef_ox (hX _ _ _ _ _ hb) (fun _ h445 => hX _ _ _ _ _ h445))
  | 7 => exact Ef_ox (k7_f_X6_writeWord__ek14 _ _ _ _ hb) (fun _ h446 => hX _ _ _ _ _ h446)
  | 8 => exact hX _ _ _ _ _ hb
  | 9 => exact Ef_ox (k7_f_X6_writeWord__ek16 _ _ _ _ hb) (fun _ h447 => hX _ _ _ _ _ h447)
  | 10 => exact Ef_so hb
  | 11 => exact Ef_ox (k7_f_X6_writeWord__ek18 _ _ _ _ hb) (fun _ h448 => hX _ _ _ _ _ h448)
  | b + 12 => exact Ef_no
theorem k7_t_X6_writeRow {X : Nat → Nat → Nat → LV → CS → Option RS} (hX : ∀ e m b L (σ : CS), K7 w σ → Ef w (X e m b L σ)) (K d b : Nat) (L : LV) (σ : CS) (hb : K7 w σ) : Ef w (t_X6_writeRow X K d b L σ) := by
  match b with
  | 0 => exact Ef_op (k7_y_X6_put _ _ _ _ hb) (fun _ h449 => Ef_op (k7_y_X1_length _ _ _ _ h449) (fun _ h450 => hX _ _ _ _ _ h450))
  | 1 => exact Ef_ite (hX _ _ _ _ _ hb) (Ef_ite (hX _ _ _ _ _ hb) (Ef_op (k7_y_X6_put _ _ _ _ hb) (fun _ h451 => Ef_op (k7_y_X6_put _ _ _ _ h451) (fun _ h452 => hX _ _ _ _ _ h452))))
  | 2 => exact Ef_op (k7_y_X6_put _ _ _ _ hb) (fun _ h453 => Ef_so h453)
  | 3 => exact Ef_op (k7_y_X1_member _ _ _ _ hb) (fun _ h454 => Ef_of (fun _ => Ef_ox (hX _ _ _ _ _ h454) (fun _ h455 => hX _ _ _ _ _ h455)))
  | b + 4 => exact Ef_no
theorem k7_f_F1 : ∀ (k d m b : Nat) (L : LV) (σ : CS), K7 w σ → Ef w (f_F1 k d m b L σ) := by
  intro k
  induction k with
  | zero => intro d m b L σ _; exact Ef_no
  | succ k ih =>
    intro d m b L σ hb
    match m with
    | 0 => exact k7_t_X6_write ih k d b L σ hb
    | 1 => exact k7_t_X6_writeRow ih k d b L σ hb
    | m + 2 => exact Ef_no
theorem k7_f_X6_write (k b : Nat) (L : LV) (σ : CS) (hb : K7 w σ) : Ef w (f_X6_write k b L σ) := k7_f_F1 k 80 0 b L σ hb
theorem k7_f_X6_writeRow (k b : Nat) (L : LV) (σ : CS) (hb : K7 w σ) : Ef w (f_X6_writeRow k b L σ) := k7_f_F1 k 80 1 b L σ hb
theorem k7_f_X6_print : ∀ (k b : Nat) (L : LV) (σ : CS), K7 w σ → Ef w (f_X6_print k b L σ) := by
  intro k
  induction k with
  | zero => intro b L σ _; exact Ef_no
  | succ k ih =>
    intro b L σ hb
    match b with
    | 0 =>
      refine Ef_eq (by rw [f_X6_print]) ?_
      exact Ef_ox (k7_f_X6_write _ _ _ _ (uI_K7 (by decide) hb)) (fun _ h456 => Ef_so h456)
    | b + 1 =>
      exact Ef_eq (by rw [f_X6_print]) Ef_no
theorem k7_f_X6_writeWord__ek2 : ∀ (k b : Nat) (L : LV) (σ : CS), K7 w σ → Ef w (f_X6_writeWord__ek2 k b L σ) := by
  intro k
  induction k with
  | zero => intro b L σ _; exact Ef_no
  | succ k ih =>
    intro b L σ hb
    match b with
    | 0 =>
      refine Ef_eq (by rw [f_X6_writeWord__ek2]) ?_
      exact ih _ _ _ hb
    | 1 =>
      refine Ef_eq (by rw [f_X6_writeWord__ek2]) ?_
      exact Ef_ite (ih _ _ _ hb) (Ef_ite (Ef_op (k7_y_X6_put _ _ _ _ hb) (fun _ h457 => ih _ _ _ h457)) (Ef_no))
    | 2 =>
      refine Ef_eq (by rw [f_X6_writeWord__ek2]) ?_
      exact Ef_so hb
    | b + 3 =>
      exact Ef_eq (by rw [f_X6_writeWord__ek2]) Ef_no
theorem k7_f_X6_word__ek2 : ∀ (k b : Nat) (L : LV) (σ : CS), K7 w σ → Ef w (f_X6_word__ek2 k b L σ) := by
  intro k
  induction k with
  | zero => intro b L σ _; exact Ef_no
  | succ k ih =>
    intro b L σ hb
    match b with
    | 0 =>
      refine Ef_eq (by rw [f_X6_word__ek2]) ?_
      exact Ef_ox (k7_f_X6_writeWord__ek2 _ _ _ _ (uI_K7 (by decide) hb)) (fun _ h458 => Ef_op (k7_y_X6_madeString _ _ _ _ h458) (fun _ h459 => Ef_so h459))
    | b + 1 =>
      exact Ef_eq (by rw [f_X6_word__ek2]) Ef_no
theorem k7_f_X6_writeWord__ek4 : ∀ (k b : Nat) (L : LV) (σ : CS), K7 w σ → Ef w (f_X6_writeWord__ek4 k b L σ) := by
  intro k
  induction k with
  | zero => intro b L σ _; exact Ef_no
  | succ k ih =>
    intro b L σ hb
    match b with
    | 0 =>
      refine Ef_eq (by rw [f_X6_writeWord__ek4]) ?_
      exact ih _ _ _ hb
    | 1 =>
      refine Ef_eq (by rw [f_X6_writeWord__ek4]) ?_
      exact Ef_ite (ih _ _ _ hb) (Ef_ite (Ef_op (k7_y_X6_put _ _ _ _ hb) (fun _ h460 => ih _ _ _ h460)) (Ef_no))
    | 2 =>
      refine Ef_eq (by rw [f_X6_writeWord__ek4]) ?_
      exact Ef_so hb
    | b + 3 =>
      exact Ef_eq (by rw [f_X6_writeWord__ek4]) Ef_no
theorem k7_f_X6_word__ek4 : ∀ (k b : Nat) (L : LV) (σ : CS), K7 w σ → Ef w (f_X6_word__ek4 k b L σ) := by
  intro k
  induction k with
  | zero => intro b L σ _; exact Ef_no
  | succ k ih =>
    intro b L σ hb
    match b with
    | 0 =>
      refine Ef_eq (by rw [f_X6_word__ek4]) ?_
      exact Ef_ox (k7_f_X6_writeWord__ek4 _ _ _ _ (uI_K7 (by decide) hb)) (fun _ h461 => Ef_op (k7_y_X6_madeString _ _ _ _ h461) (fun _ h462 => Ef_so h462))
    | b + 1 =>
      exact Ef_eq (by rw [f_X6_word__ek4]) Ef_no
theorem k7_f_X6_writeWord__ek6 : ∀ (k b : Nat) (L : LV) (σ : CS), K7 w σ → Ef w (f_X6_writeWord__ek6 k b L σ) := by
  intro k
  induction k with
  | zero => intro b L σ _; exact Ef_no
  | succ k ih =>
    intro b L σ hb
    match b with
    | 0 =>
      refine Ef_eq (by rw [f_X6_writeWord__ek6]) ?_
      exact ih _ _ _ hb
    | 1 =>
      refine Ef_eq (by rw [f_X6_writeWord__ek6]) ?_
      exact Ef_ite (ih _ _ _ hb) (Ef_ite (Ef_op (k7_y_X6_put _ _ _ _ hb) (fun _ h463 => ih _ _ _ h463)) (Ef_no))
    | 2 =>
      refine Ef_eq (by rw [f_X6_writeWord__ek6]) ?_
      exact Ef_so hb
    | b + 3 =>
      exact Ef_eq (by rw [f_X6_writeWord__ek6]) Ef_no
theorem k7_f_X6_word__ek6 : ∀ (k b : Nat) (L : LV) (σ : CS), K7 w σ → Ef w (f_X6_word__ek6 k b L σ) := by
  intro k
  induction k with
  | zero => intro b L σ _; exact Ef_no
  | succ k ih =>
    intro b L σ hb
    match b with
    | 0 =>
      refine Ef_eq (by rw [f_X6_word__ek6]) ?_
      exact Ef_ox (k7_f_X6_writeWord__ek6 _ _ _ _ (uI_K7 (by decide) hb)) (fun _ h464 => Ef_op (k7_y_X6_madeString _ _ _ _ h464) (fun _ h465 => Ef_so h465))
    | b + 1 =>
      exact Ef_eq (by rw [f_X6_word__ek6]) Ef_no
theorem k7_f_X6_writeWord__ek8 : ∀ (k b : Nat) (L : LV) (σ : CS), K7 w σ → Ef w (f_X6_writeWord__ek8 k b L σ) := by
  intro k
  induction k with
  | zero => intro b L σ _; exact Ef_no
  | succ k ih =>
    intro b L σ hb
    match b with
    | 0 =>
      refine Ef_eq (by rw [f_X6_writeWord__ek8]) ?_
      exact ih _ _ _ hb
    | 1 =>
      refine Ef_eq (by rw [f_X6_writeWord__ek8]) ?_
      exact Ef_ite (ih _ _ _ hb) (Ef_ite (Ef_op (k7_y_X6_put _ _ _ _ hb) (fun _ h466 => ih _ _ _ h466)) (Ef_no))
    | 2 =>
      refine Ef_eq (by rw [f_X6_writeWord__ek8]) ?_
      exact Ef_so hb
    | b + 3 =>
      exact Ef_eq (by rw [f_X6_writeWord__ek8]) Ef_no
theorem k7_f_X6_word__ek8 : ∀ (k b : Nat) (L : LV) (σ : CS), K7 w σ → Ef w (f_X6_word__ek8 k b L σ) := by
  intro k
  induction k with
  | zero => intro b L σ _; exact Ef_no
  | succ k ih =>
    intro b L σ hb
    match b with
    | 0 =>
      refine Ef_eq (by rw [f_X6_word__ek8]) ?_
      exact Ef_ox (k7_f_X6_writeWord__ek8 _ _ _ _ (uI_K7 (by decide) hb)) (fun _ h467 => Ef_op (k7_y_X6_madeString _ _ _ _ h467) (fun _ h468 => Ef_so h468))
    | b + 1 =>
      exact Ef_eq (by rw [f_X6_word__ek8]) Ef_no
theorem k7_f_X6_writeWord__ek10 : ∀ (k b : Nat) (L : LV) (σ : CS), K7 w σ → Ef w (f_X6_writeWord__ek10 k b L σ) := by
  intro k
  induction k with
  | zero => intro b L σ _; exact Ef_no
  | succ k ih =>
    intro b L σ hb
    match b with
    | 0 =>
      refine Ef_eq (by rw [f_X6_writeWord__ek10]) ?_
      exact ih _ _ _ hb
    | 1 =>
      refine Ef_eq (by rw [f_X6_writeWord__ek10]) ?_
      exact Ef_ite (ih _ _ _ hb) (Ef_ite (Ef_op (k7_y_X6_put _ _ _ _ hb) (fun _ h469 => ih _ _ _ h469)) (Ef_no))
    | 2 =>
      refine Ef_eq (by rw [f_X6_writeWord__ek10]) ?_
      exact Ef_so hb
    | b + 3 =>
      exact Ef_eq (by rw [f_X6_writeWord__ek10]) Ef_no
theorem k7_f_X6_word__ek10 : ∀ (k b : Nat) (L : LV) (σ : CS), K7 w σ → Ef w (f_X6_word__ek10 k b L σ) := by
  intro k
  induction k with
  | zero => intro b L σ _; exact Ef_no
  | succ k ih =>
    intro b L σ hb
    match b with
    | 0 =>
      refine Ef_eq (by rw [f_X6_word__ek10]) ?_
      exact Ef_ox (k7_f_X6_writeWord__ek10 _ _ _ _ (uI_K7 (by decide) hb)) (fun _ h470 => Ef_op (k7_y_X6_madeString _ _ _ _ h470) (fun _ h471 => Ef_so h471))
    | b + 1 =>
      exact Ef_eq (by rw [f_X6_word__ek10]) Ef_no
theorem k7_f_X6_writeWord__ek12 : ∀ (k b : Nat) (L : LV) (σ : CS), K7 w σ → Ef w (f_X6_writeWord__ek12 k b L σ) := by
  intro k
  induction k with
  | zero => intro b L σ _; exact Ef_no
  | succ k ih =>
    intro b L σ hb
    match b with
    | 0 =>
      refine Ef_eq (by rw [f_X6_writeWord__ek12]) ?_
      exact ih _ _ _ hb
    | 1 =>
      refine Ef_eq (by rw [f_X6_writeWord__ek12]) ?_
      exact Ef_ite (ih _ _ _ hb) (Ef_ite (Ef_op (k7_y_X6_put _ _ _ _ hb) (fun _ h472 => ih _ _ _ h472)) (Ef_no))
    | 2 =>
      refine Ef_eq (by rw [f_X6_writeWord__ek12]) ?_
      exact Ef_so hb
    | b + 3 =>
      exact Ef_eq (by rw [f_X6_writeWord__ek12]) Ef_no
theorem k7_f_X6_word__ek12 : ∀ (k b : Nat) (L : LV) (σ : CS), K7 w σ → Ef w (f_X6_word__ek12 k b L σ) := by
  intro k
  induction k with
  | zero => intro b L σ _; exact Ef_no
  | succ k ih =>
    intro b L σ hb
    match b with
    | 0 =>
      refine Ef_eq (by rw [f_X6_word__ek12]) ?_
      exact Ef_ox (k7_f_X6_writeWord__ek12 _ _ _ _ (uI_K7 (by decide) hb)) (fun _ h473 => Ef_op (k7_y_X6_madeString _ _ _ _ h473) (fun _ h474 => Ef_so h474))
    | b + 1 =>
      exact Ef_eq (by rw [f_X6_word__ek12]) Ef_no
theorem k7_f_X6_word__ek14 : ∀ (k b : Nat) (L : LV) (σ : CS), K7 w σ → Ef w (f_X6_word__ek14 k b L σ) := by
  intro k
  induction k with
  | zero => intro b L σ _; exact Ef_no
  | succ k ih =>
    intro b L σ hb
    match b with
    | 0 =>
      refine Ef_eq (by rw [f_X6_word__ek14]) ?_
      exact Ef_ox (k7_f_X6_writeWord__ek14 _ _ _ _ (uI_K7 (by decide) hb)) (fun _ h475 => Ef_op (k7_y_X6_madeString _ _ _ _ h475) (fun _ h476 => Ef_so h476))
    | b + 1 =>
      exact Ef_eq (by rw [f_X6_word__ek14]) Ef_no
theorem k7_f_X0_unary : ∀ (k b : Nat) (L : LV) (σ : CS), K7 w σ → Ef w (f_X0_unary k b L σ) := by
  intro k
  induction k with
  | zero => intro b L σ _; exact Ef_no
  | succ k ih =>
    intro b L σ hb
    match b with
    | 0 =>
      refine Ef_eq (by rw [f_X0_unary]) ?_
      exact Ef_op (k7_y_X1_kind _ _ _ _ hb) (fun _ h477 => Ef_ite (ih _ _ _ h477) (Ef_ite (ih _ _ _ h477) (Ef_ite (ih _ _ _ h477) (Ef_ite (ih _ _ _ h477) (Ef_ite (ih _ _ _ h477) (Ef_ite (ih _ _ _ h477) (Ef_ite (ih _ _ _ h477) (Ef_ite (ih _ _ _ h477) (Ef_ite (ih _ _ _ h477) (Ef_ite (ih _ _ _ h477) (Ef_ite (ih _ _ _ h477) (ih _ _ _ h477))))))))))))
    | 1 =>
      refine Ef_eq (by rw [f_X0_unary]) ?_
      exact Ef_ite (Ef_op (k7_y_X10_negated _ _ _ _ hb) (fun _ h478 => ih _ _ _ h478)) (ih _ _ _ hb)
    | 2 =>
      refine Ef_eq (by rw [f_X0_unary]) ?_
      exact Ef_ite (ih _ _ _ hb) (Ef_op (k7_y_X1_length _ _ _ _ hb) (fun _ h479 => Ef_op (k7_y_X10_small _ _ _ _ h479) (fun _ h480 => ih _ _ _ h480)))
    | 3 =>
      refine Ef_eq (by rw [f_X0_unary]) ?_
      exact Ef_ite (Ef_op (k7_y_X10_absolute _ _ _ _ hb) (fun _ h481 => ih _ _ _ h481)) (ih _ _ _ hb)
    | 4 =>
      refine Ef_eq (by rw [f_X0_unary]) ?_
      exact Ef_ite (Ef_op (k7_y_X1_member _ _ _ _ hb) (fun _ h482 => ih _ _ _ h482)) (ih _ _ _ hb)
    | 5 =>
      refine Ef_eq (by rw [f_X0_unary]) ?_
      exact Ef_op (k7_y_X1_isMap _ _ _ _ hb) (fun _ h483 => Ef_ite (ih _ _ _ h483) (Ef_op (k7_y_X0_domain _ _ _ _ h483) (fun _ h484 => ih _ _ _ h484)))
    | 6 =>
      refine Ef_eq (by rw [f_X0_unary]) ?_
      exact Ef_op (k7_y_X1_isMap _ _ _ _ hb) (fun _ h485 => Ef_ite (ih _ _ _ h485) (Ef_op (k7_y_X0_range _ _ _ _ h485) (fun _ h486 => ih _ _ _ h486)))
    | 7 =>
      refine Ef_eq (by rw [f_X0_unary]) ?_
      exact Ef_ite (Ef_op (k7_y_X0_subsets _ _ _ _ hb) (fun _ h487 => ih _ _ _ h487)) (ih _ _ _ hb)
    | 8 =>
      refine Ef_eq (by rw [f_X0_unary]) ?_
      exact Ef_ite (Ef_ox (k7_f_X6_word__ek2 _ _ _ _ hb) (fun _ h488 => Ef_so h488)) (Ef_ite (Ef_ox (k7_f_X6_word__ek4 _ _ _ _ hb) (fun _ h489 => Ef_so h489)) (Ef_ite (Ef_ox (k7_f_X6_word__ek6 _ _ _ _ hb) (fun _ h490 => Ef_so h490)) (Ef_ite (Ef_ox (k7_f_X6_word__ek8 _ _ _ _ hb) (fun _ h491 => Ef_so h491)) (Ef_ite (Ef_ox (k7_f_X6_word__ek10 _ _ _ _ hb) (fun _ h492 => Ef_so h492)) (Ef_ite (Ef_ox (k7_f_X6_word__ek12 _ _ _ _ hb) (fun _ h493 => Ef_so h493)) (Ef_ox (k7_f_X6_word__ek14 _ _ _ _ hb) (fun _ h494 => Ef_so h494)))))))
    | 9 =>
      refine Ef_eq (by rw [f_X0_unary]) ?_
      exact Ef_ox (k7_f_X6_print _ _ _ _ hb) (fun _ h495 => Ef_op (k7_y_X6_madeString _ _ _ _ h495) (fun _ h496 => Ef_so h496))
    | 10 =>
      refine Ef_eq (by rw [f_X0_unary]) ?_
      exact Ef_ite (Ef_op (k7_y_X0_charOf _ _ _ _ hb) (fun _ h497 => ih _ _ _ h497)) (ih _ _ _ hb)
    | 11 =>
      refine Ef_eq (by rw [f_X0_unary]) ?_
      exact Ef_ite (Ef_op (k7_y_X0_codeOf _ _ _ _ hb) (fun _ h498 => ih _ _ _ h498)) (ih _ _ _ hb)
    | 12 =>
      refine Ef_eq (by rw [f_X0_unary]) ?_
      exact Ef_ite (ih _ _ _ hb) (Ef_ite (ih _ _ _ hb) (ih _ _ _ hb))
    | 13 =>
      refine Ef_eq (by rw [f_X0_unary]) ?_
      exact ih _ _ _ hb
    | 14 =>
      refine Ef_eq (by rw [f_X0_unary]) ?_
      exact Ef_so hb
    | 15 =>
      refine Ef_eq (by rw [f_X0_unary]) ?_
      exact ih _ _ _ hb
    | 16 =>
      refine Ef_eq (by rw [f_X0_unary]) ?_
      exact Ef_so hb
    | 17 =>
      refine Ef_eq (by rw [f_X0_unary]) ?_
      exact ih _ _ _ hb
    | 18 =>
      refine Ef_eq (by rw [f_X0_unary]) ?_
      exact Ef_so hb
    | 19 =>
      refine Ef_eq (by rw [f_X0_unary]) ?_
      exact ih _ _ _ hb
    | 20 =>
      refine Ef_eq (by rw [f_X0_unary]) ?_
      exact Ef_so hb
    | 21 =>
      refine Ef_eq (by rw [f_X0_unary]) ?_
      exact ih _ _ _ hb
    | 22 =>
      refine Ef_eq (by rw [f_X0_unary]) ?_
      exact Ef_so hb
    | 23 =>
      refine Ef_eq (by rw [f_X0_unary]) ?_
      exact ih _ _ _ hb
    | 24 =>
      refine Ef_eq (by rw [f_X0_unary]) ?_
      exact Ef_so hb
    | 25 =>
      refine Ef_eq (by rw [f_X0_unary]) ?_
      exact ih _ _ _ hb
    | 26 =>
      refine Ef_eq (by rw [f_X0_unary]) ?_
      exact Ef_so hb
    | 27 =>
      refine Ef_eq (by rw [f_X0_unary]) ?_
      exact ih _ _ _ hb
    | 28 =>
      refine Ef_eq (by rw [f_X0_unary]) ?_
      exact Ef_so hb
    | 29 =>
      refine Ef_eq (by rw [f_X0_unary]) ?_
      exact ih _ _ _ hb
    | 30 =>
      refine Ef_eq (by rw [f_X0_unary]) ?_
      exact Ef_so hb
    | 31 =>
      refine Ef_eq (by rw [f_X0_unary]) ?_
      exact Ef_op (k7_y_X0_reversed _ _ _ _ hb) (fun _ h499 => ih _ _ _ h499)
    | 32 =>
      refine Ef_eq (by rw [f_X0_unary]) ?_
      exact ih _ _ _ hb
    | 33 =>
      refine Ef_eq (by rw [f_X0_unary]) ?_
      exact Ef_so hb
    | b + 34 =>
      exact Ef_eq (by rw [f_X0_unary]) Ef_no
theorem k7_f_X1_widen : ∀ (k b : Nat) (L : LV) (σ : CS), K7 w σ → Ef w (f_X1_widen k b L σ) := by
  intro k
  induction k with
  | zero => intro b L σ _; exact Ef_no
  | succ k ih =>
    intro b L σ hb
    match b with
    | 0 =>
      refine Ef_eq (by rw [f_X1_widen]) ?_
      exact Ef_ite (Ef_no) (Ef_ite (ih _ _ _ hb) (Ef_ite (Ef_ite (Ef_ad (ih _ _ _ (uZ_K7 (by decide) hb))) (ih _ _ _ hb)) (Ef_no)))
    | 1 =>
      refine Ef_eq (by rw [f_X1_widen]) ?_
      exact Ef_so hb
    | 2 =>
      refine Ef_eq (by rw [f_X1_widen]) ?_
      exact Ef_ite (Ef_ite (Ef_ad (ih _ _ _ (uZ_K7 (by decide) hb))) (ih _ _ _ hb)) (Ef_no)
    | 3 =>
      refine Ef_eq (by rw [f_X1_widen]) ?_
      exact Ef_ite (Ef_ite (Ef_ad (ih _ _ _ (uZ_K7 (by decide) hb))) (ih _ _ _ hb)) (Ef_no)
    | b + 4 =>
      exact Ef_eq (by rw [f_X1_widen]) Ef_no
theorem k7_f_X11_wantRun : ∀ (k b : Nat) (L : LV) (σ : CS), K7 w σ → Ef w (f_X11_wantRun k b L σ) := by
  intro k
  induction k with
  | zero => intro b L σ _; exact Ef_no
  | succ k ih =>
    intro b L σ hb
    match b with
    | 0 =>
      refine Ef_eq (by rw [f_X11_wantRun]) ?_
      exact Ef_ite (Ef_so hb) (ih _ _ _ hb)
    | 1 =>
      refine Ef_eq (by rw [f_X11_wantRun]) ?_
      exact Ef_so hb
    | b + 2 =>
      exact Ef_eq (by rw [f_X11_wantRun]) Ef_no
theorem k7_f_X3_isRoomFor : ∀ (k b : Nat) (L : LV) (σ : CS), K7 w σ → Ef w (f_X3_isRoomFor k b L σ) := by
  intro k
  induction k with
  | zero => intro b L σ _; exact Ef_no
  | succ k ih =>
    intro b L σ hb
    match b with
    | 0 =>
      refine Ef_eq (by rw [f_X3_isRoomFor]) ?_
      exact Ef_ite (Ef_ite (Ef_ad (ih _ _ _ (uZ_K7 (by decide) hb))) (ih _ _ _ hb)) (Ef_no)
    | 1 =>
      refine Ef_eq (by rw [f_X3_isRoomFor]) ?_
      exact Ef_ite (ih _ _ _ hb) (ih _ _ _ (uI_K7 (by decide) hb))
    | 2 =>
      refine Ef_eq (by rw [f_X3_isRoomFor]) ?_
      exact Ef_so hb
    | 3 =>
      refine Ef_eq (by rw [f_X3_isRoomFor]) ?_
      exact Ef_so (uI_K7 (by decide) hb)
    | b + 4 =>
      exact Ef_eq (by rw [f_X3_isRoomFor]) Ef_no
theorem k7_f_X3_pushAll : ∀ (k b : Nat) (L : LV) (σ : CS), K7 w σ → Ef w (f_X3_pushAll k b L σ) := by
  intro k
  induction k with
  | zero => intro b L σ _; exact Ef_no
  | succ k ih =>
    intro b L σ hb
    match b with
    | 0 =>
      refine Ef_eq (by rw [f_X3_pushAll]) ?_
      exact Ef_ox (k7_f_X3_isRoomFor _ _ _ _ hb) (fun _ h500 => Ef_ite (ih _ _ _ h500) (ih _ _ _ h500))
    | 1 =>
      refine Ef_eq (by rw [f_X3_pushAll]) ?_
      exact Ef_so hb
    | 2 =>
      refine Ef_eq (by rw [f_X3_pushAll]) ?_
      exact Ef_ite (ih _ _ _ hb) (Ef_ite (ih _ _ _ (uA_K7 (by decide) hb)) (Ef_no))
    | 3 =>
      refine Ef_eq (by rw [f_X3_pushAll]) ?_
      exact ih _ _ _ (uI_K7 (by decide) hb)
    | b + 4 =>
      exact Ef_eq (by rw [f_X3_pushAll]) Ef_no
theorem k7_f_X3_restart : ∀ (k b : Nat) (L : LV) (σ : CS), K7 w σ → Ef w (f_X3_restart k b L σ) := by
  intro k
  induction k with
  | zero => intro b L σ _; exact Ef_no
  | succ k ih =>
    intro b L σ hb
    match b with
    | 0 =>
      refine Ef_eq (by rw [f_X3_restart]) ?_
      exact Ef_oP (fun _ => ih _ _ _ (uI_K7 (by decide) (uI_K7 (by decide) (uI_K7 (by decide) hb))))
    | 1 =>
      refine Ef_eq (by rw [f_X3_restart]) ?_
      exact ih _ _ _ (uI_K7 (by decide) (uI_K7 (by decide) (uI_K7 (by decide) hb)))
    | 2 =>
      refine Ef_eq (by rw [f_X3_restart]) ?_
      exact ih _ _ _ (uI_K7 (by decide) (uI_K7 (by decide) (uI_K7 (by decide) hb)))
    | 3 =>
      refine Ef_eq (by rw [f_X3_restart]) ?_
      exact Ef_oP (fun _ => Ef_ite (ih _ _ _ (uI_K7 (by decide) (uI_K7 (by decide) (uI_K7 (by decide) hb)))) (Ef_no))
    | 4 =>
      refine Ef_eq (by rw [f_X3_restart]) ?_
      exact ih _ _ _ (uI_K7 (by decide) (uI_K7 (by decide) (uI_K7 (by decide) hb)))
    | 5 =>
      refine Ef_eq (by rw [f_X3_restart]) ?_
      exact Ef_ox (k7_f_X3_pushAll _ _ _ _ (uL_K7 (uI_K7 (by decide) hb))) (fun _ h501 => Ef_oP (fun _ => Ef_ite (Ef_ox (k7_f_X3_pushAll _ _ _ _ h501) (fun _ h502 => Ef_so h502)) (Ef_no)))
    | b + 6 =>
      exact Ef_eq (by rw [f_X3_restart]) Ef_no
theorem k7_y_X8_copyFrom__a19__R : ∀ (k b : Nat) (L : LV) (σ : CS), K7 w σ → Ey w (y_X8_copyFrom__a19__R k b L σ) := by
  intro k
  induction k with
  | zero => intro b L σ _; exact Ey_no
  | succ k ih =>
    intro b L σ hb
    match b with
    | 0 =>
      refine Ey_eq (by rw [y_X8_copyFrom__a19__R]) ?_
      exact Ey_ck (fun h9 => Ey_ck (fun h9 => Ey_ck (fun h9 => ih _ _ _ (uI_K7 (by decide) (uI_K7 (by decide) (uI_K7 (by decide) hb))))))
    | 1 =>
      refine Ey_eq (by rw [y_X8_copyFrom__a19__R]) ?_
      exact Ey_ck (fun h9 => Ey_ck (fun h9 => Ey_ck (fun h9 => ih _ _ _ (uI_K7 (by decide) (uI_K7 (by decide) (uI_K7 (by decide) hb))))))
    | 2 =>
      refine Ey_eq (by rw [y_X8_copyFrom__a19__R]) ?_
      exact Ey_ck (fun h9 => Ey_ck (fun h9 => Ey_ck (fun h9 => ih _ _ _ (uI_K7 (by decide) (uI_K7 (by decide) (uI_K7 (by decide) hb))))))
    | 3 =>
      refine Ey_eq (by rw [y_X8_copyFrom__a19__R]) ?_
      exact Ey_ck (fun h9 => Ey_ck (fun h9 => Ey_ck (fun h9 => ih _ _ _ (uI_K7 (by decide) (uI_K7 (by decide) (uI_K7 (by decide) hb))))))
    | 4 =>
      refine Ey_eq (by rw [y_X8_copyFrom__a19__R]) ?_
      exact Ey_ck (fun h9 => Ey_ck (fun h9 => Ey_ck (fun h9 => ih _ _ _ (uI_K7 (by decide) (uI_K7 (by decide) (uI_K7 (by decide) hb))))))
    | 5 =>
      refine Ey_eq (by rw [y_X8_copyFrom__a19__R]) ?_
      exact Ey_ck (fun h9 => Ey_ck (fun h9 => Ey_so (uL_K7 (uI_K7 (by decide) hb))))
    | b + 6 =>
      exact Ey_eq (by rw [y_X8_copyFrom__a19__R]) Ey_no
theorem k7_f_X3_goBack : ∀ (k b : Nat) (L : LV) (σ : CS), K7 w σ → Ef w (f_X3_goBack k b L σ) := by
  intro k
  induction k with
  | zero => intro b L σ _; exact Ef_no
  | succ k ih =>
    intro b L σ hb
    match b with
    | 0 =>
      refine Ef_eq (by rw [f_X3_goBack]) ?_
      exact Ef_op (k7_y_X9_newest _ _ _ _ hb) (fun _ h503 => Ef_ite (Ef_ox (k7_f_X3_restart _ _ _ _ h503) (fun _ h504 => Ef_so h504)) (ih _ _ _ h503))
    | 1 =>
      refine Ef_eq (by rw [f_X3_goBack]) ?_
      exact Ef_ite (Ef_op (k7_y_X8_copyFrom__a19__R _ _ _ _ hb) (fun _ h505 => Ef_ite (Ef_ite (ih _ _ _ (uF_K7 (by decide) h505)) (Ef_no)) (Ef_no))) (Ef_no)
    | 2 =>
      refine Ef_eq (by rw [f_X3_goBack]) ?_
      exact Ef_ite (Ef_ite (ih _ _ _ (uF_K7 (by decide) hb)) (Ef_no)) (Ef_no)
    | 3 =>
      refine Ef_eq (by rw [f_X3_goBack]) ?_
      exact Ef_so hb
    | b + 4 =>
      exact Ef_eq (by rw [f_X3_goBack]) Ef_no
theorem k7_f_X3_makeRoom : ∀ (k b : Nat) (L : LV) (σ : CS), K7 w σ → Ef w (f_X3_makeRoom k b L σ) := by
  intro k
  induction k with
  | zero => intro b L σ _; exact Ef_no
  | succ k ih =>
    intro b L σ hb
    match b with
    | 0 =>
      refine Ef_eq (by rw [f_X3_makeRoom]) ?_
      exact Ef_op (k7_y_X1_isTight _ _ _ _ hb) (fun _ h506 => Ef_ite (Ef_so h506) (ih _ _ _ h506))
    | 1 =>
      refine Ef_eq (by rw [f_X3_makeRoom]) ?_
      exact Ef_op (k7_y_X3_moveAll _ _ _ _ hb) (fun _ h507 => Ef_ox (k7_f_X1_widen _ _ _ _ h507) (fun _ h508 => Ef_op (k7_y_X1_isScarce _ _ _ _ h508) (fun _ h509 => Ef_ite (ih _ _ _ h509) (Ef_op (k7_y_X9_used _ _ _ _ h509) (fun _ h510 => Ef_ite (ih _ _ _ h510) (Ef_op (k7_y_X9_drop _ _ _ _ h510) (fun _ h511 => Ef_op (k7_y_X3_moveAll _ _ _ _ h511) (fun _ h512 => ih _ _ _ h512))))))))
    | 2 =>
      refine Ef_eq (by rw [f_X3_makeRoom]) ?_
      exact Ef_so hb
    | b + 3 =>
      exact Ef_eq (by rw [f_X3_makeRoom]) Ef_no
theorem k7_f_X9_thinOut : ∀ (k b : Nat) (L : LV) (σ : CS), K7 w σ → Ef w (f_X9_thinOut k b L σ) := by
  intro k
  induction k with
  | zero => intro b L σ _; exact Ef_no
  | succ k ih =>
    intro b L σ hb
    match b with
    | 0 =>
      refine Ef_eq (by rw [f_X9_thinOut]) ?_
      exact ih _ _ _ (uI_K7 (by decide) (uI_K7 (by decide) hb))
    | 1 =>
      refine Ef_eq (by rw [f_X9_thinOut]) ?_
      exact ih _ _ _ (uI_K7 (by decide) hb)
    | 2 =>
      refine Ef_eq (by rw [f_X9_thinOut]) ?_
      exact Ef_ite (ih _ _ _ hb) (Ef_ite (Ef_ck (fun h9 => Ef_ite (Ef_no) (Ef_ite (Ef_ite (Ef_ck (fun h9 => Ef_ck (fun h9 => Ef_ite (ih _ _ _ (uF_K7 (by decide) hb)) (Ef_no)))) (Ef_no)) (ih _ _ _ hb)))) (Ef_no))
    | 3 =>
      refine Ef_eq (by rw [f_X9_thinOut]) ?_
      exact Ef_so hb
    | 4 =>
      refine Ef_eq (by rw [f_X9_thinOut]) ?_
      exact ih _ _ _ hb
    | 5 =>
      refine Ef_eq (by rw [f_X9_thinOut]) ?_
      exact Ef_ite (Ef_ck (fun h9 => Ef_ite (ih _ _ _ (uPi_K7 hb)) (Ef_no))) (Ef_no)
    | 6 =>
      refine Ef_eq (by rw [f_X9_thinOut]) ?_
      exact Ef_ck (fun h9 => Ef_ite (Ef_ite (Ef_ck (fun h9 => Ef_ck (fun h9 => ih _ _ _ (uI_K7 (by decide) (uA_K7 (by decide) (uPi_K7 hb)))))) (Ef_no)) (Ef_no))
    | 7 =>
      refine Ef_eq (by rw [f_X9_thinOut]) ?_
      exact ih _ _ _ (uI_K7 (by decide) hb)
    | b + 8 =>
      exact Ef_eq (by rw [f_X9_thinOut]) Ef_no
theorem k7_y_X9_isRoomFor__a19 : ∀ (k b : Nat) (L : LV) (σ : CS), K7 w σ → Ey w (y_X9_isRoomFor__a19 k b L σ) := by
  intro k
  induction k with
  | zero => intro b L σ _; exact Ey_no
  | succ k ih =>
    intro b L σ hb
    match b with
    | 0 =>
      refine Ey_eq (by rw [y_X9_isRoomFor__a19]) ?_
      exact ih _ _ _ hb
    | 1 =>
      refine Ey_eq (by rw [y_X9_isRoomFor__a19]) ?_
      exact Ey_ite (ih _ _ _ hb) (Ey_ite (Ey_ck (fun h9 => Ey_ite (Ey_ck (fun h9 => ih _ _ _ hb)) (Ey_no))) (Ey_no))
    | 2 =>
      refine Ey_eq (by rw [y_X9_isRoomFor__a19]) ?_
      exact Ey_ite (ih _ _ _ hb) (Ey_ite (ih _ _ _ hb) (ih _ _ _ hb))
    | 3 =>
      refine Ey_eq (by rw [y_X9_isRoomFor__a19]) ?_
      exact ih _ _ _ hb
    | 4 =>
      refine Ey_eq (by rw [y_X9_isRoomFor__a19]) ?_
      exact Ey_ite (Ey_so hb) (Ey_no)
    | b + 5 =>
      exact Ey_eq (by rw [y_X9_isRoomFor__a19]) Ey_no
theorem k7_y_X8_copyFrom__R__a19 : ∀ (k b : Nat) (L : LV) (σ : CS), K7 w σ → Ey w (y_X8_copyFrom__R__a19 k b L σ) := by
  intro k
  induction k with
  | zero => intro b L σ _; exact Ey_no
  | succ k ih =>
    intro b L σ hb
    match b with
    | 0 =>
      refine Ey_eq (by rw [y_X8_copyFrom__R__a19]) ?_
      exact Ey_ck (fun h9 => Ey_ck (fun h9 => Ey_ck (fun h9 => ih _ _ _ (uI_K7 (by omega) (uI_K7 (by omega) (uI_K7 (by omega) hb))))))
    | 1 =>
      refine Ey_eq (by rw [y_X8_copyFrom__R__a19]) ?_
      exact Ey_ck (fun h9 => Ey_ck (fun h9 => Ey_ck (fun h9 => ih _ _ _ (uI_K7 (by omega) (uI_K7 (by omega) (uI_K7 (by omega) hb))))))
    | 2 =>
      refine Ey_eq (by rw [y_X8_copyFrom__R__a19]) ?_
      exact Ey_ck (fun h9 => Ey_ck (fun h9 => Ey_ck (fun h9 => ih _ _ _ (uI_K7 (by omega) (uI_K7 (by omega) (uI_K7 (by omega) hb))))))
    | 3 =>
      refine Ey_eq (by rw [y_X8_copyFrom__R__a19]) ?_
      exact Ey_ck (fun h9 => Ey_ck (fun h9 => Ey_ck (fun h9 => ih _ _ _ (uI_K7 (by omega) (uI_K7 (by omega) (uI_K7 (by omega) hb))))))
    | 4 =>
      refine Ey_eq (by rw [y_X8_copyFrom__R__a19]) ?_
      exact Ey_ck (fun h9 => Ey_ck (fun h9 => Ey_ck (fun h9 => ih _ _ _ (uI_K7 (by omega) (uI_K7 (by omega) (uI_K7 (by omega) hb))))))
    | 5 =>
      refine Ey_eq (by rw [y_X8_copyFrom__R__a19]) ?_
      exact Ey_ck (fun h9 => Ey_ck (fun h9 => Ey_so (uL_K7 (uI_K7 (by omega) hb))))
    | b + 6 =>
      exact Ey_eq (by rw [y_X8_copyFrom__R__a19]) Ey_no
theorem k7_f_X9_store__a19__z20__z21 : ∀ (k b : Nat) (L : LV) (σ : CS), K7 w σ → Ef w (f_X9_store__a19__z20__z21 k b L σ) := by
  intro k
  induction k with
  | zero => intro b L σ _; exact Ef_no
  | succ k ih =>
    intro b L σ hb
    match b with
    | 0 =>
      refine Ef_eq (by rw [f_X9_store__a19__z20__z21]) ?_
      exact Ef_ite (Ef_ite (Ef_ad (ih _ _ _ (uZ_K7 (by decide) hb))) (ih _ _ _ hb)) (Ef_no)
    | 1 =>
      refine Ef_eq (by rw [f_X9_store__a19__z20__z21]) ?_
      exact Ef_ite (ih _ _ _ (uA_K7 (by decide) hb)) (Ef_no)
    | 2 =>
      refine Ef_eq (by rw [f_X9_store__a19__z20__z21]) ?_
      exact Ef_ite (Ef_ck (fun h9 => Ef_op (k7_y_X8_copyFrom__R__a19 _ _ _ _ hb) (fun _ h513 => Ef_ite (ih _ _ _ (uF_K7 (by decide) h513)) (Ef_no)))) (Ef_no)
    | 3 =>
      refine Ef_eq (by rw [f_X9_store__a19__z20__z21]) ?_
      exact Ef_ite (ih _ _ _ (uF_K7 (by decide) hb)) (Ef_no)
    | 4 =>
      refine Ef_eq (by rw [f_X9_store__a19__z20__z21]) ?_
      exact Ef_so hb
    | b + 5 =>
      exact Ef_eq (by rw [f_X9_store__a19__z20__z21]) Ef_no
theorem k7_f_X9_add__a19__z20__z21 : ∀ (k b : Nat) (L : LV) (σ : CS), K7 w σ → Ef w (f_X9_add__a19__z20__z21 k b L σ) := by
  intro k
  induction k with
  | zero => intro b L σ _; exact Ef_no
  | succ k ih =>
    intro b L σ hb
    match b with
    | 0 =>
      refine Ef_eq (by rw [f_X9_add__a19__z20__z21]) ?_
      exact ih _ _ _ (uI_K7 (by decide) hb)
    | 1 =>
      refine Ef_eq (by rw [f_X9_add__a19__z20__z21]) ?_
      exact Ef_ite (ih _ _ _ hb) (Ef_ite (ih _ _ _ hb) (Ef_ite (ih _ _ _ hb) (Ef_op (k7_y_X9_isRoomFor__a19 _ _ _ _ hb) (fun _ h514 => Ef_ite (ih _ _ _ h514) (ih _ _ _ h514)))))
    | 2 =>
      refine Ef_eq (by rw [f_X9_add__a19__z20__z21]) ?_
      exact Ef_ite (Ef_no) (Ef_ite (Ef_no) (Ef_ite (Ef_op (k7_y_X9_isRoomFor__a19 _ _ _ _ (uI_K7 (by decide) hb)) (fun _ h515 => Ef_ite (ih _ _ _ h515) (Ef_ox (k7_f_X9_store__a19__z20__z21 _ _ _ _ h515) (fun _ h516 => ih _ _ _ (uI_K7 (by decide) h516))))) (ih _ _ _ (uI_K7 (by decide) hb))))
    | 3 =>
      refine Ef_eq (by rw [f_X9_add__a19__z20__z21]) ?_
      exact Ef_ox (k7_f_X9_thinOut _ _ _ _ hb) (fun _ h517 => ih _ _ _ h517)
    | 4 =>
      refine Ef_eq (by rw [f_X9_add__a19__z20__z21]) ?_
      exact Ef_so hb
    | 5 =>
      refine Ef_eq (by rw [f_X9_add__a19__z20__z21]) ?_
      exact ih _ _ _ (uI_K7 (by decide) hb)
    | b + 6 =>
      exact Ef_eq (by rw [f_X9_add__a19__z20__z21]) Ef_no
theorem k7_f_X9_addNear__a19__z20__z21 : ∀ (k b : Nat) (L : LV) (σ : CS), K7 w σ → Ef w (f_X9_addNear__a19__z20__z21 k b L σ) := by
  intro k
  induction k with
  | zero => intro b L σ _; exact Ef_no
  | succ k ih =>
    intro b L σ hb
    match b with
    | 0 =>
      refine Ef_eq (by rw [f_X9_addNear__a19__z20__z21]) ?_
      exact Ef_ite (ih _ _ _ hb) (ih _ _ _ hb)
    | 1 =>
      refine Ef_eq (by rw [f_X9_addNear__a19__z20__z21]) ?_
      exact ih _ _ _ hb
    | 2 =>
      refine Ef_eq (by rw [f_X9_addNear__a19__z20__z21]) ?_
      exact Ef_ite (Ef_ite (ih _ _ _ (uI_K7 (by decide) hb)) (Ef_ox (k7_f_X9_store__a19__z20__z21 _ _ _ _ (uI_K7 (by decide) hb)) (fun _ h518 => ih _ _ _ h518))) (Ef_no)
    | 3 =>
      refine Ef_eq (by rw [f_X9_addNear__a19__z20__z21]) ?_
      exact Ef_so hb
    | b + 4 =>
      exact Ef_eq (by rw [f_X9_addNear__a19__z20__z21]) Ef_no
theorem k7_f_X3_save : ∀ (k b : Nat) (L : LV) (σ : CS), K7 w σ → Ef w (f_X3_save k b L σ) := by
  intro k
  induction k with
  | zero => intro b L σ _; exact Ef_no
  | succ k ih =>
    intro b L σ hb
    match b with
    | 0 =>
      refine Ef_eq (by rw [f_X3_save]) ?_
      exact Ef_ite (Ef_ox (k7_f_X9_add__a19__z20__z21 _ _ _ _ (uI_K7 (by decide) hb)) (fun _ h519 => ih _ _ _ h519)) (ih _ _ _ (uI_K7 (by decide) hb))
    | 1 =>
      refine Ef_eq (by rw [f_X3_save]) ?_
      exact Ef_ite (Ef_ox (k7_f_X9_addNear__a19__z20__z21 _ _ _ _ hb) (fun _ h520 => ih _ _ _ h520)) (ih _ _ _ hb)
    | 2 =>
      refine Ef_eq (by rw [f_X3_save]) ?_
      exact Ef_so (uI_K7 (by decide) hb)
    | b + 3 =>
      exact Ef_eq (by rw [f_X3_save]) Ef_no
theorem k7_f_X3_flow : ∀ (k b : Nat) (L : LV) (σ : CS), K7 w σ → Ef w (f_X3_flow k b L σ) := by
  intro k
  induction k with
  | zero => intro b L σ _; exact Ef_no
  | succ k ih =>
    intro b L σ hb
    match b with
    | 0 =>
      refine Ef_eq (by rw [f_X3_flow]) ?_
      exact Ef_ite (ih _ _ _ hb) (Ef_ite (ih _ _ _ hb) (Ef_ite (ih _ _ _ hb) (Ef_ite (ih _ _ _ hb) (Ef_ite (ih _ _ _ hb) (Ef_ite (ih _ _ _ hb) (Ef_ite (ih _ _ _ hb) (Ef_ite (ih _ _ _ hb) (Ef_ite (ih _ _ _ hb) (Ef_ite (ih _ _ _ hb) (ih _ _ _ hb))))))))))
    | 1 =>
      refine Ef_eq (by rw [f_X3_flow]) ?_
      exact Ef_ite (ih _ _ _ hb) (Ef_ite (ih _ _ _ hb) (Ef_ite (ih _ _ _ hb) (ih _ _ _ hb)))
    | 2 =>
      refine Ef_eq (by rw [f_X3_flow]) ?_
      exact ih _ _ _ (uI_K7 (by decide) (uI_K7 (by decide) hb))
    | 3 =>
      refine Ef_eq (by rw [f_X3_flow]) ?_
      exact ih _ _ _ (uI_K7 (by decide) hb)
    | 4 =>
      refine Ef_eq (by rw [f_X3_flow]) ?_
      exact Ef_op (k7_y_X3_pop _ _ _ _ hb) (fun _ h521 => Ef_op (k7_y_X3_wantTruth _ _ _ _ h521) (fun _ h522 => Ef_ite (ih _ _ _ h522) (Ef_ite (ih _ _ _ h522) (ih _ _ _ h522))))
    | 5 =>
      refine Ef_eq (by rw [f_X3_flow]) ?_
      exact Ef_ite (ih _ _ _ hb) (ih _ _ _ hb)
    | 6 =>
      refine Ef_eq (by rw [f_X3_flow]) ?_
      exact Ef_ite (Ef_op (k7_y_X3_wantTruth _ _ _ _ hb) (fun _ h523 => Ef_ite (ih _ _ _ h523) (Ef_op (k7_y_X3_spend _ _ _ _ h523) (fun _ h524 => ih _ _ _ h524)))) (Ef_no)
    | 7 =>
      refine Ef_eq (by rw [f_X3_flow]) ?_
      exact Ef_ite (Ef_op (k7_y_X3_wantTruth _ _ _ _ hb) (fun _ h525 => Ef_ite (ih _ _ _ h525) (Ef_ite (Ef_ite (ih _ _ _ h525) (ih _ _ _ h525)) (Ef_no)))) (Ef_no)
    | 8 =>
      refine Ef_eq (by rw [f_X3_flow]) ?_
      exact ih _ _ _ (uI_K7 (by decide) hb)
    | 9 =>
      refine Ef_eq (by rw [f_X3_flow]) ?_
      exact Ef_op (k7_y_X3_beginStatement _ _ _ _ hb) (fun _ h526 => ih _ _ _ h526)
    | 10 =>
      refine Ef_eq (by rw [f_X3_flow]) ?_
      exact Ef_ox (k7_f_X3_save _ _ _ _ hb) (fun _ h527 => ih _ _ _ h527)
    | 11 =>
      refine Ef_eq (by rw [f_X3_flow]) ?_
      exact Ef_so hb
    | 12 =>
      refine Ef_eq (by rw [f_X3_flow]) ?_
      exact ih _ _ _ hb
    | 13 =>
      refine Ef_eq (by rw [f_X3_flow]) ?_
      exact Ef_ite (ih _ _ _ hb) (ih _ _ _ hb)
    | 14 =>
      refine Ef_eq (by rw [f_X3_flow]) ?_
      exact ih _ _ _ hb
    | 15 =>
      refine Ef_eq (by rw [f_X3_flow]) ?_
      exact Ef_op (k7_y_X3_shortcut _ _ _ _ hb) (fun _ h528 => ih _ _ _ h528)
    | 16 =>
      refine Ef_eq (by rw [f_X3_flow]) ?_
      exact ih _ _ _ hb
    | 17 =>
      refine Ef_eq (by rw [f_X3_flow]) ?_
      exact Ef_op (k7_y_X11_truth _ _ _ _ hb) (fun _ h529 => Ef_op (k7_y_X3_replace _ _ _ _ h529) (fun _ h530 => ih _ _ _ h530))
    | 18 =>
      refine Ef_eq (by rw [f_X3_flow]) ?_
      exact ih _ _ _ hb
    | 19 =>
      refine Ef_eq (by rw [f_X3_flow]) ?_
      exact Ef_ite (ih _ _ _ (uI_K7 (by decide) hb)) (ih _ _ _ hb)
    | b + 20 =>
      exact Ef_eq (by rw [f_X3_flow]) Ef_no
theorem k7_f_X3_enter : ∀ (k b : Nat) (L : LV) (σ : CS), K7 w σ → Ef w (f_X3_enter k b L σ) := by
  intro k
  induction k with
  | zero => intro b L σ _; exact Ef_no
  | succ k ih =>
    intro b L σ hb
    match b with
    | 0 =>
      refine Ef_eq (by rw [f_X3_enter]) ?_
      exact Ef_oP (fun _ => Ef_ite (Ef_op (k7_y_X11_raw _ _ _ _ hb) (fun _ h531 => Ef_ite (Ef_op (k7_y_X11_raw _ _ _ _ (uA_K7 (by decide) h531)) (fun _ h532 => ih _ _ _ h532)) (Ef_no))) (Ef_no))
    | 1 =>
      refine Ef_eq (by rw [f_X3_enter]) ?_
      exact Ef_ite (Ef_op (k7_y_X11_raw _ _ _ _ (uA_K7 (by decide) hb)) (fun _ h533 => Ef_ite (ih _ _ _ (uA_K7 (by decide) h533)) (Ef_no))) (Ef_no)
    | 2 =>
      refine Ef_eq (by rw [f_X3_enter]) ?_
      exact Ef_op (k7_y_X11_raw _ _ _ _ hb) (fun _ h534 => Ef_ite (ih _ _ _ (uI_K7 (by decide) (uA_K7 (by decide) h534))) (Ef_no))
    | 3 =>
      refine Ef_eq (by rw [f_X3_enter]) ?_
      exact Ef_oP (fun _ => Ef_ite (Ef_oP (fun _ => Ef_ite (Ef_ox (k7_f_X3_pushAll _ _ _ _ hb) (fun _ h535 => Ef_oP (fun _ => Ef_ite (Ef_so (uI_K7 (by decide) h535)) (Ef_no)))) (Ef_no))) (Ef_no))
    | b + 4 =>
      exact Ef_eq (by rw [f_X3_enter]) Ef_no
theorem k7_f_X3_callFunc : ∀ (k b : Nat) (L : LV) (σ : CS), K7 w σ → Ef w (f_X3_callFunc k b L σ) := by
  intro k
  induction k with
  | zero => intro b L σ _; exact Ef_no
  | succ k ih =>
    intro b L σ hb
    match b with
    | 0 =>
      refine Ef_eq (by rw [f_X3_callFunc]) ?_
      exact Ef_oP (fun _ => Ef_ite (Ef_oP (fun _ => Ef_ite (Ef_ite (ih _ _ _ hb) (Ef_ite (ih _ _ _ hb) (ih _ _ _ hb))) (Ef_no))) (Ef_no))
    | 1 =>
      refine Ef_eq (by rw [f_X3_callFunc]) ?_
      exact Ef_op (k7_y_X3_fail _ _ _ _ hb) (fun _ h536 => Ef_so h536)
    | 2 =>
      refine Ef_eq (by rw [f_X3_callFunc]) ?_
      exact ih _ _ _ (uI_K7 (by decide) (uI_K7 (by decide) (uI_K7 (by decide) hb)))
    | 3 =>
      refine Ef_eq (by rw [f_X3_callFunc]) ?_
      exact Ef_ox (k7_f_X3_enter _ _ _ _ hb) (fun _ h537 => Ef_so h537)
    | b + 4 =>
      exact Ef_eq (by rw [f_X3_callFunc]) Ef_no
theorem k7_f_X3_push : ∀ (k b : Nat) (L : LV) (σ : CS), K7 w σ → Ef w (f_X3_push k b L σ) := by
  intro k
  induction k with
  | zero => intro b L σ _; exact Ef_no
  | succ k ih =>
    intro b L σ hb
    match b with
    | 0 =>
      refine Ef_eq (by rw [f_X3_push]) ?_
      exact Ef_ite (ih _ _ _ hb) (Ef_ox (k7_f_X3_isRoomFor _ _ _ _ hb) (fun _ h538 => Ef_ite (ih _ _ _ h538) (ih _ _ _ h538)))
    | 1 =>
      refine Ef_eq (by rw [f_X3_push]) ?_
      exact Ef_ite (ih _ _ _ (uI_K7 (by decide) (uA_K7 (by decide) hb))) (Ef_no)
    | 2 =>
      refine Ef_eq (by rw [f_X3_push]) ?_
      exact Ef_so hb
    | b + 3 =>
      exact Ef_eq (by rw [f_X3_push]) Ef_no
theorem k7_f_X3_give : ∀ (k b : Nat) (L : LV) (σ : CS), K7 w σ → Ef w (f_X3_give k b L σ) := by
  intro k
  induction k with
  | zero => intro b L σ _; exact Ef_no
  | succ k ih =>
    intro b L σ hb
    match b with
    | 0 =>
      refine Ef_eq (by rw [f_X3_give]) ?_
      exact Ef_ox (k7_f_X3_push _ _ _ _ hb) (fun _ h539 => Ef_op (k7_y_X3_replace _ _ _ _ h539) (fun _ h540 => Ef_so h540))
    | b + 1 =>
      exact Ef_eq (by rw [f_X3_give]) Ef_no
theorem k7_f_X3_endFunc : ∀ (k b : Nat) (L : LV) (σ : CS), K7 w σ → Ef w (f_X3_endFunc k b L σ) := by
  intro k
  induction k with
  | zero => intro b L σ _; exact Ef_no
  | succ k ih =>
    intro b L σ hb
    match b with
    | 0 =>
      refine Ef_eq (by rw [f_X3_endFunc]) ?_
      exact Ef_op (k7_y_X3_pop _ _ _ _ hb) (fun _ h541 => Ef_ite (Ef_op (k7_y_X11_unraw _ _ _ _ (uI_K7 (by decide) h541)) (fun _ h542 => ih _ _ _ (uI_K7 (by decide) h542))) (Ef_no))
    | 1 =>
      refine Ef_eq (by rw [f_X3_endFunc]) ?_
      exact Ef_ite (Ef_op (k7_y_X11_unraw _ _ _ _ hb) (fun _ h543 => Ef_ite (Ef_op (k7_y_X11_unraw _ _ _ _ (uI_K7 (by decide) h543)) (fun _ h544 => ih _ _ _ h544)) (Ef_no))) (Ef_no)
    | 2 =>
      refine Ef_eq (by rw [f_X3_endFunc]) ?_
      exact Ef_ite (Ef_op (k7_y_X11_unraw _ _ _ _ (uI_K7 (by decide) hb)) (fun _ h545 => ih _ _ _ (uI_K7 (by decide) h545))) (Ef_no)
    | 3 =>
      refine Ef_eq (by rw [f_X3_endFunc]) ?_
      exact Ef_ox (k7_f_X3_give _ _ _ _ (uI_K7 (by decide) hb)) (fun _ h546 => Ef_so h546)
    | b + 4 =>
      exact Ef_eq (by rw [f_X3_endFunc]) Ef_no
theorem k7_f_X3_callProc : ∀ (k b : Nat) (L : LV) (σ : CS), K7 w σ → Ef w (f_X3_callProc k b L σ) := by
  intro k
  induction k with
  | zero => intro b L σ _; exact Ef_no
  | succ k ih =>
    intro b L σ hb
    match b with
    | 0 =>
      refine Ef_eq (by rw [f_X3_callProc]) ?_
      exact Ef_ite (ih _ _ _ hb) (Ef_op (k7_y_X3_fail _ _ _ _ hb) (fun _ h547 => Ef_so h547))
    | 1 =>
      refine Ef_eq (by rw [f_X3_callProc]) ?_
      exact Ef_oP (fun _ => Ef_ite (Ef_oP (fun _ => Ef_ite (ih _ _ _ hb) (Ef_no))) (Ef_no))
    | 2 =>
      refine Ef_eq (by rw [f_X3_callProc]) ?_
      exact Ef_ite (ih _ _ _ hb) (Ef_ite (Ef_op (k7_y_X1_size _ _ _ _ hb) (fun _ h548 => ih _ _ _ h548)) (Ef_no))
    | 3 =>
      refine Ef_eq (by rw [f_X3_callProc]) ?_
      exact Ef_ite (ih _ _ _ hb) (Ef_op (k7_y_X3_fail _ _ _ _ hb) (fun _ h549 => Ef_so h549))
    | 4 =>
      refine Ef_eq (by rw [f_X3_callProc]) ?_
      exact Ef_ox (k7_f_X3_enter _ _ _ _ hb) (fun _ h550 => ih _ _ _ (uI_K7 (by decide) (uI_K7 (by decide) (uI_K7 (by decide) h550))))
    | 5 =>
      refine Ef_eq (by rw [f_X3_callProc]) ?_
      exact Ef_so hb
    | b + 6 =>
      exact Ef_eq (by rw [f_X3_callProc]) Ef_no
theorem k7_f_X3_makePoint : ∀ (k b : Nat) (L : LV) (σ : CS), K7 w σ → Ef w (f_X3_makePoint k b L σ) := by
  intro k
  induction k with
  | zero => intro b L σ _; exact Ef_no
  | succ k ih =>
    intro b L σ hb
    match b with
    | 0 =>
      refine Ef_eq (by rw [f_X3_makePoint]) ?_
      exact Ef_ite (ih _ _ _ hb) (Ef_ite (ih _ _ _ hb) (ih _ _ _ hb))
    | 1 =>
      refine Ef_eq (by rw [f_X3_makePoint]) ?_
      exact Ef_op (k7_y_X3_fail _ _ _ _ hb) (fun _ h551 => Ef_so h551)
    | 2 =>
      refine Ef_eq (by rw [f_X3_makePoint]) ?_
      exact Ef_ite (Ef_ite (Ef_ad (ih _ _ _ (uZ_K7 (by decide) hb))) (ih _ _ _ hb)) (Ef_no)
    | 3 =>
      refine Ef_eq (by rw [f_X3_makePoint]) ?_
      exact Ef_ite (ih _ _ _ hb) (Ef_op (k7_y_X3_fail _ _ _ _ hb) (fun _ h552 => Ef_so h552))
    | 4 =>
      refine Ef_eq (by rw [f_X3_makePoint]) ?_
      exact Ef_ite (ih _ _ _ (uF_K7 (by decide) hb)) (Ef_no)
    | 5 =>
      refine Ef_eq (by rw [f_X3_makePoint]) ?_
      exact Ef_op (k7_y_X11_raw _ _ _ _ hb) (fun _ h553 => Ef_ite (ih _ _ _ (uA_K7 (by decide) h553)) (Ef_no))
    | 6 =>
      refine Ef_eq (by rw [f_X3_makePoint]) ?_
      exact Ef_op (k7_y_X11_raw _ _ _ _ hb) (fun _ h554 => Ef_ite (Ef_op (k7_y_X11_raw _ _ _ _ (uA_K7 (by decide) h554)) (fun _ h555 => ih _ _ _ h555)) (Ef_no))
    | 7 =>
      refine Ef_eq (by rw [f_X3_makePoint]) ?_
      exact Ef_ite (Ef_op (k7_y_X11_raw _ _ _ _ (uA_K7 (by decide) hb)) (fun _ h556 => Ef_ite (ih _ _ _ (uA_K7 (by decide) h556)) (Ef_no))) (Ef_no)
    | 8 =>
      refine Ef_eq (by rw [f_X3_makePoint]) ?_
      exact Ef_op (k7_y_X11_raw _ _ _ _ hb) (fun _ h557 => Ef_ite (Ef_op (k7_y_X11_raw _ _ _ _ (uA_K7 (by decide) h557)) (fun _ h558 => ih _ _ _ h558)) (Ef_no))
    | 9 =>
      refine Ef_eq (by rw [f_X3_makePoint]) ?_
      exact Ef_ite (ih _ _ _ (uI_K7 (by decide) (uI_K7 (by decide) (uA_K7 (by decide) hb)))) (Ef_no)
    | 10 =>
      refine Ef_eq (by rw [f_X3_makePoint]) ?_
      exact Ef_ox (k7_f_X3_push _ _ _ _ (uI_K7 (by decide) hb)) (fun _ h559 => Ef_so h559)
    | b + 11 =>
      exact Ef_eq (by rw [f_X3_makePoint]) Ef_no
theorem k7_f_X3_leavePoint : ∀ (k b : Nat) (L : LV) (σ : CS), K7 w σ → Ef w (f_X3_leavePoint k b L σ) := by
  intro k
  induction k with
  | zero => intro b L σ _; exact Ef_no
  | succ k ih =>
    intro b L σ hb
    match b with
    | 0 =>
      refine Ef_eq (by rw [f_X3_leavePoint]) ?_
      exact Ef_ite (Ef_op (k7_y_X3_fail _ _ _ _ hb) (fun _ h560 => Ef_so h560)) (ih _ _ _ hb)
    | 1 =>
      refine Ef_eq (by rw [f_X3_leavePoint]) ?_
      exact Ef_ite (Ef_op (k7_y_X11_unraw _ _ _ _ hb) (fun _ h561 => Ef_ite (Ef_op (k7_y_X11_unraw _ _ _ _ h561) (fun _ h562 => ih _ _ _ (uI_K7 (by decide) h562))) (Ef_no))) (Ef_no)
    | 2 =>
      refine Ef_eq (by rw [f_X3_leavePoint]) ?_
      exact Ef_ite (ih _ _ _ (uI_K7 (by decide) (uI_K7 (by decide) hb))) (Ef_ite (Ef_op (k7_y_X11_unraw _ _ _ _ (uI_K7 (by decide) (uI_K7 (by decide) hb))) (fun _ h563 => ih _ _ _ h563)) (Ef_no))
    | 3 =>
      refine Ef_eq (by rw [f_X3_leavePoint]) ?_
      exact Ef_so hb
    | 4 =>
      refine Ef_eq (by rw [f_X3_leavePoint]) ?_
      exact Ef_ite (Ef_op (k7_y_X11_unraw _ _ _ _ (uI_K7 (by decide) hb)) (fun _ h564 => ih _ _ _ (uI_K7 (by decide) h564))) (Ef_no)
    | 5 =>
      refine Ef_eq (by rw [f_X3_leavePoint]) ?_
      exact Ef_ite (Ef_op (k7_y_X11_unraw _ _ _ _ (uI_K7 (by decide) hb)) (fun _ h565 => ih _ _ _ (uI_K7 (by decide) h565))) (Ef_no)
    | 6 =>
      refine Ef_eq (by rw [f_X3_leavePoint]) ?_
      exact Ef_ite (Ef_op (k7_y_X11_unraw _ _ _ _ (uI_K7 (by decide) hb)) (fun _ h566 => ih _ _ _ (uI_K7 (by decide) h566))) (Ef_no)
    | 7 =>
      refine Ef_eq (by rw [f_X3_leavePoint]) ?_
      exact Ef_ite (ih _ _ _ (uF_K7 (by decide) hb)) (Ef_no)
    | 8 =>
      refine Ef_eq (by rw [f_X3_leavePoint]) ?_
      exact Ef_ox (k7_f_X3_push _ _ _ _ hb) (fun _ h567 => ih _ _ _ h567)
    | b + 9 =>
      exact Ef_eq (by rw [f_X3_leavePoint]) Ef_no
theorem k7_f_X3_callsAndPoints : ∀ (k b : Nat) (L : LV) (σ : CS), K7 w σ → Ef w (f_X3_callsAndPoints k b L σ) := by
  intro k
  induction k with
  | zero => intro b L σ _; exact Ef_no
  | succ k ih =>
    intro b L σ hb
    match b with
    | 0 =>
      refine Ef_eq (by rw [f_X3_callsAndPoints]) ?_
      exact Ef_ite (ih _ _ _ hb) (Ef_ite (ih _ _ _ hb) (Ef_ite (ih _ _ _ hb) (Ef_ite (ih _ _ _ hb) (Ef_ite (ih _ _ _ hb) (Ef_ite (ih _ _ _ hb) (Ef_ite (ih _ _ _ hb) (Ef_ite (ih _ _ _ hb) (Ef_ite (ih _ _ _ hb) (ih _ _ _ hb)))))))))
    | 1 =>
      refine Ef_eq (by rw [f_X3_callsAndPoints]) ?_
      exact Ef_ox (k7_f_X3_pushAll _ _ _ _ hb) (fun _ h568 => ih _ _ _ h568)
    | 2 =>
      refine Ef_eq (by rw [f_X3_callsAndPoints]) ?_
      exact Ef_ox (k7_f_X3_callFunc _ _ _ _ hb) (fun _ h569 => ih _ _ _ h569)
    | 3 =>
      refine Ef_eq (by rw [f_X3_callsAndPoints]) ?_
      exact Ef_ox (k7_f_X3_endFunc _ _ _ _ hb) (fun _ h570 => ih _ _ _ h570)
    | 4 =>
      refine Ef_eq (by rw [f_X3_callsAndPoints]) ?_
      exact Ef_ox (k7_f_X3_callProc _ _ _ _ hb) (fun _ h571 => ih _ _ _ h571)
    | 5 =>
      refine Ef_eq (by rw [f_X3_callsAndPoints]) ?_
      exact Ef_op (k7_y_X3_endProc _ _ _ _ hb) (fun _ h572 => ih _ _ _ h572)
    | 6 =>
      refine Ef_eq (by rw [f_X3_callsAndPoints]) ?_
      exact Ef_ox (k7_f_X3_makePoint _ _ _ _ hb) (fun _ h573 => ih _ _ _ h573)
    | 7 =>
      refine Ef_eq (by rw [f_X3_callsAndPoints]) ?_
      exact Ef_ite (ih _ _ _ hb) (ih _ _ _ hb)
    | 8 =>
      refine Ef_eq (by rw [f_X3_callsAndPoints]) ?_
      exact Ef_op (k7_y_X3_pop _ _ _ _ hb) (fun _ h574 => Ef_op (k7_y_X3_wantTruth _ _ _ _ h574) (fun _ h575 => Ef_ite (ih _ _ _ h575) (Ef_ite (Ef_op (k7_y_X3_fail _ _ _ _ h575) (fun _ h576 => ih _ _ _ h576)) (ih _ _ _ h575))))
    | 9 =>
      refine Ef_eq (by rw [f_X3_callsAndPoints]) ?_
      exact Ef_so hb
    | 10 =>
      refine Ef_eq (by rw [f_X3_callsAndPoints]) ?_
      exact ih _ _ _ hb
    | 11 =>
      refine Ef_eq (by rw [f_X3_callsAndPoints]) ?_
      exact Ef_ox (k7_f_X3_leavePoint _ _ _ _ hb) (fun _ h577 => ih _ _ _ h577)
    | b + 12 =>
      exact Ef_eq (by rw [f_X3_callsAndPoints]) Ef_no
theorem k7_y_X1_makeCopy__A0 : ∀ (k b : Nat) (L : LV) (σ : CS), K7 w σ → Ey w (y_X1_makeCopy__A0 k b L σ) := by
  intro k
  induction k with
  | zero => intro b L σ _; exact Ey_no
  | succ k ih =>
    intro b L σ hb
    match b with
    | 0 =>
      refine Ey_eq (by rw [y_X1_makeCopy__A0]) ?_
      exact Ey_ite (ih _ _ _ hb) (Ey_so hb)
    | 1 =>
      refine Ey_eq (by rw [y_X1_makeCopy__A0]) ?_
      exact Ey_ite (Ey_so (uF_K7 (by decide) (uI_K7 (by decide) hb))) (Ey_no)
    | b + 2 =>
      exact Ey_eq (by rw [y_X1_makeCopy__A0]) Ey_no
theorem k7_f_X3_data : ∀ (k b : Nat) (L : LV) (σ : CS), K7 w σ → Ef w (f_X3_data k b L σ) := by
  intro k
  induction k with
  | zero => intro b L σ _; exact Ef_no
  | succ k ih =>
    intro b L σ hb
    match b with
    | 0 =>
      refine Ef_eq (by rw [f_X3_data]) ?_
      exact Ef_ite (ih _ _ _ hb) (Ef_ite (ih _ _ _ hb) (Ef_ite (ih _ _ _ hb) (Ef_ite (ih _ _ _ hb) (Ef_ite (ih _ _ _ hb) (Ef_ite (ih _ _ _ hb) (Ef_ite (ih _ _ _ hb) (Ef_ite (ih _ _ _ hb) (Ef_ite (ih _ _ _ hb) (Ef_ite (ih _ _ _ hb) (Ef_ite (ih _ _ _ hb) (ih _ _ _ hb)))))))))))
    | 1 =>
      refine Ef_eq (by rw [f_X3_data]) ?_
      exact Ef_oP (fun _ => Ef_ite (Ef_ox (k7_f_X3_push _ _ _ _ hb) (fun _ h578 => ih _ _ _ (uI_K7 (by decide) h578))) (Ef_no))
    | 2 =>
      refine Ef_eq (by rw [f_X3_data]) ?_
      exact Ef_oP (fun _ => Ef_ite (Ef_ox (k7_f_X3_give _ _ _ _ hb) (fun _ h579 => ih _ _ _ (uI_K7 (by decide) h579))) (Ef_no))
    | 3 =>
      refine Ef_eq (by rw [f_X3_data]) ?_
      exact Ef_oP (fun _ => Ef_op (k7_y_X1_makeCopy__A0 _ _ _ _ hb) (fun _ h580 => Ef_ox (k7_f_X3_give _ _ _ _ h580) (fun _ h581 => ih _ _ _ (uI_K7 (by decide) h581))))
    | 4 =>
      refine Ef_eq (by rw [f_X3_data]) ?_
      exact Ef_ite (Ef_ox (k7_f_X3_push _ _ _ _ hb) (fun _ h582 => ih _ _ _ h582)) (Ef_no)
    | 5 =>
      refine Ef_eq (by rw [f_X3_data]) ?_
      exact Ef_ite (Ef_ox (k7_f_X3_push _ _ _ _ hb) (fun _ h583 => ih _ _ _ h583)) (Ef_no)
    | 6 =>
      refine Ef_eq (by rw [f_X3_data]) ?_
      exact ih _ _ _ (uI_K7 (by decide) hb)
    | 7 =>
      refine Ef_eq (by rw [f_X3_data]) ?_
      exact Ef_ite (Ef_ox (k7_f_X3_push _ _ _ _ hb) (fun _ h584 => ih _ _ _ h584)) (Ef_no)
    | 8 =>
      refine Ef_eq (by rw [f_X3_data]) ?_
      exact Ef_ite (Ef_ite (Ef_ite (Ef_ite (ih _ _ _ (uA_K7 (by decide) (uA_K7 (by decide) hb))) (Ef_no)) (Ef_no)) (Ef_no)) (Ef_no)
    | 9 =>
      refine Ef_eq (by rw [f_X3_data]) ?_
      exact Ef_ite (Ef_op (k7_y_X1_size _ _ _ _ hb) (fun _ h585 => Ef_op (k7_y_X3_spend _ _ _ _ h585) (fun _ h586 => ih _ _ _ h586))) (Ef_no)
    | 10 =>
      refine Ef_eq (by rw [f_X3_data]) ?_
      exact Ef_ite (Ef_ox (k7_f_X3_push _ _ _ _ hb) (fun _ h587 => ih _ _ _ h587)) (Ef_no)
    | 11 =>
      refine Ef_eq (by rw [f_X3_data]) ?_
      exact Ef_ox (k7_f_X3_pushAll _ _ _ _ hb) (fun _ h588 => ih _ _ _ h588)
    | 12 =>
      refine Ef_eq (by rw [f_X3_data]) ?_
      exact Ef_so hb
    | b + 13 =>
      exact Ef_eq (by rw [f_X3_data]) Ef_no
theorem k7_f_X3_newAtom : ∀ (k b : Nat) (L : LV) (σ : CS), K7 w σ → Ef w (f_X3_newAtom k b L σ) := by
  intro k
  induction k with
  | zero => intro b L σ _; exact Ef_no
  | succ k ih =>
    intro b L σ hb
    match b with
    | 0 =>
      refine Ef_eq (by rw [f_X3_newAtom]) ?_
      exact Ef_ite (ih _ _ _ hb) (Ef_op (k7_y_X3_fail _ _ _ _ hb) (fun _ h589 => Ef_so h589))
    | 1 =>
      refine Ef_eq (by rw [f_X3_newAtom]) ?_
      exact Ef_ox (k7_f_X3_give _ _ _ _ (uI_K7 (by decide) hb)) (fun _ h590 => Ef_so h590)
    | b + 2 =>
      exact Ef_eq (by rw [f_X3_newAtom]) Ef_no
theorem k7_y_X0_insert__z20 : ∀ (k b : Nat) (L : LV) (σ : CS), K7 w σ → Ey w (y_X0_insert__z20 k b L σ) := by
  intro k
  induction k with
  | zero => intro b L σ _; exact Ey_no
  | succ k ih =>
    intro b L σ hb
    match b with
    | 0 =>
      refine Ey_eq (by rw [y_X0_insert__z20]) ?_
      exact Ey_ite (ih _ _ _ hb) (Ey_ite (Ey_oc (k7_y_X1_compare _ _ _ _ hb) (fun _ h591 => Ey_ite (ih _ _ _ h591) (ih _ _ _ h591))) (Ey_no))
    | 1 =>
      refine Ey_eq (by rw [y_X0_insert__z20]) ?_
      exact ih _ _ _ hb
    | 2 =>
      refine Ey_eq (by rw [y_X0_insert__z20]) ?_
      exact Ey_ite (ih _ _ _ hb) (Ey_ite (ih _ _ _ hb) (Ey_ite (Ey_oc (k7_y_X1_compare _ _ _ _ hb) (fun _ h592 => Ey_ite (ih _ _ _ h592) (ih _ _ _ h592))) (Ey_no)))
    | 3 =>
      refine Ey_eq (by rw [y_X0_insert__z20]) ?_
      exact Ey_ite (ih _ _ _ hb) (Ey_ite (Ey_oc (k7_y_X1_same _ _ _ _ hb) (fun _ h593 => Ey_ite (ih _ _ _ h593) (Ey_so h593))) (Ey_no))
    | 4 =>
      refine Ey_eq (by rw [y_X0_insert__z20]) ?_
      exact ih _ _ _ hb
    | 5 =>
      refine Ey_eq (by rw [y_X0_insert__z20]) ?_
      exact ih _ _ _ hb
    | 6 =>
      refine Ey_eq (by rw [y_X0_insert__z20]) ?_
      exact Ey_ite (Ey_ite (Ey_so (uA_K7 (by decide) (uF_K7 (by decide) hb))) (Ey_no)) (Ey_no)
    | b + 7 =>
      exact Ey_eq (by rw [y_X0_insert__z20]) Ey_no
theorem k7_y_X1_makeRow__z20 : ∀ (k b : Nat) (L : LV) (σ : CS), K7 w σ → Ey w (y_X1_makeRow__z20 k b L σ) := by
  intro k
  induction k with
  | zero => intro b L σ _; exact Ey_no
  | succ k ih =>
    intro b L σ hb
    match b with
    | 0 =>
      refine Ey_eq (by rw [y_X1_makeRow__z20]) ?_
      exact Ey_ite (ih _ _ _ hb) (Ey_ite (ih _ _ _ hb) (ih _ _ _ hb))
    | 1 =>
      refine Ey_eq (by rw [y_X1_makeRow__z20]) ?_
      exact Ey_ite (ih _ _ _ hb) (ih _ _ _ hb)
    | 2 =>
      refine Ey_eq (by rw [y_X1_makeRow__z20]) ?_
      exact ih _ _ _ hb
    | 3 =>
      refine Ey_eq (by rw [y_X1_makeRow__z20]) ?_
      exact Ey_so hb
    | 4 =>
      refine Ey_eq (by rw [y_X1_makeRow__z20]) ?_
      exact ih _ _ _ hb
    | 5 =>
      refine Ey_eq (by rw [y_X1_makeRow__z20]) ?_
      exact ih _ _ _ hb
    | 6 =>
      refine Ey_eq (by rw [y_X1_makeRow__z20]) ?_
      exact Ey_ite (ih _ _ _ hb) (Ey_ite (ih _ _ _ hb) (Ey_ite (Ey_ite (ih _ _ _ hb) (Ey_ite (Ey_ite (ih _ _ _ hb) (ih _ _ _ hb)) (Ey_no))) (Ey_no)))
    | 7 =>
      refine Ey_eq (by rw [y_X1_makeRow__z20]) ?_
      exact Ey_ite (ih _ _ _ hb) (Ey_ite (ih _ _ _ hb) (ih _ _ _ hb))
    | 8 =>
      refine Ey_eq (by rw [y_X1_makeRow__z20]) ?_
      exact Ey_ite (ih _ _ _ hb) (Ey_ite (Ey_ite (ih _ _ _ hb) (ih _ _ _ hb)) (ih _ _ _ hb))
    | 9 =>
      refine Ey_eq (by rw [y_X1_makeRow__z20]) ?_
      exact ih _ _ _ hb
    | 10 =>
      refine Ey_eq (by rw [y_X1_makeRow__z20]) ?_
      exact Ey_ite (ih _ _ _ hb) (Ey_ite (ih _ _ _ hb) (ih _ _ _ hb))
    | 11 =>
      refine Ey_eq (by rw [y_X1_makeRow__z20]) ?_
      exact Ey_so hb
    | 12 =>
      refine Ey_eq (by rw [y_X1_makeRow__z20]) ?_
      exact Ey_ite (ih _ _ _ hb) (Ey_so hb)
    | 13 =>
      refine Ey_eq (by rw [y_X1_makeRow__z20]) ?_
      exact ih _ _ _ hb
    | 14 =>
      refine Ey_eq (by rw [y_X1_makeRow__z20]) ?_
      exact ih _ _ _ hb
    | 15 =>
      refine Ey_eq (by rw [y_X1_makeRow__z20]) ?_
      exact ih _ _ _ hb
    | 16 =>
      refine Ey_eq (by rw [y_X1_makeRow__z20]) ?_
      exact ih _ _ _ hb
    | 17 =>
      refine Ey_eq (by rw [y_X1_makeRow__z20]) ?_
      exact Ey_ite (ih _ _ _ (uI_K7 (by decide) hb)) (ih _ _ _ (uI_K7 (by decide) hb))
    | 18 =>
      refine Ey_eq (by rw [y_X1_makeRow__z20]) ?_
      exact ih _ _ _ hb
    | 19 =>
      refine Ey_eq (by rw [y_X1_makeRow__z20]) ?_
      exact ih _ _ _ hb
    | 20 =>
      refine Ey_eq (by rw [y_X1_makeRow__z20]) ?_
      exact ih _ _ _ hb
    | 21 =>
      refine Ey_eq (by rw [y_X1_makeRow__z20]) ?_
      exact Ey_ite (Ey_ite (Ey_so (uF_K7 (by decide) (uA_K7 (by decide) hb))) (Ey_no)) (Ey_no)
    | b + 22 =>
      exact Ey_eq (by rw [y_X1_makeRow__z20]) Ey_no
theorem k7_y_X0_setOf__z20 : ∀ (k b : Nat) (L : LV) (σ : CS), K7 w σ → Ey w (y_X0_setOf__z20 k b L σ) := by
  intro k
  induction k with
  | zero => intro b L σ _; exact Ey_no
  | succ k ih =>
    intro b L σ hb
    match b with
    | 0 =>
      refine Ey_eq (by rw [y_X0_setOf__z20]) ?_
      exact ih _ _ _ hb
    | 1 =>
      refine Ey_eq (by rw [y_X0_setOf__z20]) ?_
      exact Ey_ite (ih _ _ _ hb) (Ey_ite (Ey_ite (Ey_so hb) (ih _ _ _ hb)) (Ey_no))
    | 2 =>
      refine Ey_eq (by rw [y_X0_setOf__z20]) ?_
      exact ih _ _ _ hb
    | 3 =>
      refine Ey_eq (by rw [y_X0_setOf__z20]) ?_
      exact ih _ _ _ hb
    | 4 =>
      refine Ey_eq (by rw [y_X0_setOf__z20]) ?_
      exact Ey_ite (ih _ _ _ hb) (Ey_ite (Ey_oc (k7_y_X0_insert__z20 _ _ _ _ hb) (fun _ h594 => Ey_ite (ih _ _ _ h594) (Ey_oc (k7_y_X1_size _ _ _ _ h594) (fun _ h595 => Ey_ite (ih _ _ _ h595) (Ey_so h595))))) (Ey_no))
    | 5 =>
      refine Ey_eq (by rw [y_X0_setOf__z20]) ?_
      exact Ey_oc (k7_y_X1_makeRow__z20 _ _ _ _ hb) (fun _ h596 => Ey_so h596)
    | 6 =>
      refine Ey_eq (by rw [y_X0_setOf__z20]) ?_
      exact ih _ _ _ hb
    | b + 7 =>
      exact Ey_eq (by rw [y_X0_setOf__z20]) Ey_no
theorem k7_y_X1_makeTuple__z20 : ∀ (k b : Nat) (L : LV) (σ : CS), K7 w σ → Ey w (y_X1_makeTuple__z20 k b L σ) := by
  intro k
  induction k with
  | zero => intro b L σ _; exact Ey_no
  | succ k ih =>
    intro b L σ hb
    match b with
    | 0 =>
      refine Ey_eq (by rw [y_X1_makeTuple__z20]) ?_
      exact ih _ _ _ hb
    | 1 =>
      refine Ey_eq (by rw [y_X1_makeTuple__z20]) ?_
      exact Ey_ite (ih _ _ _ hb) (Ey_ite (Ey_ite (ih _ _ _ hb) (ih _ _ _ hb)) (Ey_no))
    | 2 =>
      refine Ey_eq (by rw [y_X1_makeTuple__z20]) ?_
      exact Ey_oc (k7_y_X1_makeRow__z20 _ _ _ _ hb) (fun _ h597 => Ey_so h597)
    | b + 3 =>
      exact Ey_eq (by rw [y_X1_makeTuple__z20]) Ey_no
theorem k7_f_X3_makeValue : ∀ (k b : Nat) (L : LV) (σ : CS), K7 w σ → Ef w (f_X3_makeValue k b L σ) := by
  intro k
  induction k with
  | zero => intro b L σ _; exact Ef_no
  | succ k ih =>
    intro b L σ hb
    match b with
    | 0 =>
      refine Ef_eq (by rw [f_X3_makeValue]) ?_
      exact Ef_ite (ih _ _ _ hb) (Ef_ite (ih _ _ _ hb) (Ef_ite (ih _ _ _ hb) (Ef_ite (ih _ _ _ hb) (Ef_ite (ih _ _ _ hb) (Ef_ite (ih _ _ _ hb) (Ef_ite (ih _ _ _ hb) (ih _ _ _ hb)))))))
    | 1 =>
      refine Ef_eq (by rw [f_X3_makeValue]) ?_
      exact Ef_op (k7_y_X0_setOf__z20 _ _ _ _ (uI_K7 (by decide) hb)) (fun _ h598 => Ef_ox (k7_f_X3_give _ _ _ _ h598) (fun _ h599 => ih _ _ _ h599))
    | 2 =>
      refine Ef_eq (by rw [f_X3_makeValue]) ?_
      exact Ef_op (k7_y_X1_makeTuple__z20 _ _ _ _ (uI_K7 (by decide) hb)) (fun _ h600 => Ef_ox (k7_f_X3_give _ _ _ _ h600) (fun _ h601 => ih _ _ _ h601))
    | 3 =>
      refine Ef_eq (by rw [f_X3_makeValue]) ?_
      exact Ef_ite (Ef_ite (Ef_ite (ih _ _ _ (uI_K7 (by decide) hb)) (ih _ _ _ (uI_K7 (by decide) hb))) (Ef_no)) (Ef_no)
    | 4 =>
      refine Ef_eq (by rw [f_X3_makeValue]) ?_
      exact Ef_ite (Ef_ite (ih _ _ _ (uI_K7 (by decide) hb)) (ih _ _ _ (uI_K7 (by decide) hb))) (Ef_no)
    | 5 =>
      refine Ef_eq (by rw [f_X3_makeValue]) ?_
      exact Ef_ox (k7_f_X3_newAtom _ _ _ _ hb) (fun _ h602 => ih _ _ _ h602)
    | 6 =>
      refine Ef_eq (by rw [f_X3_makeValue]) ?_
      exact Ef_ite (Ef_op (k7_y_X3_drawn _ _ _ _ hb) (fun _ h603 => Ef_op (k7_y_X3_replace _ _ _ _ h603) (fun _ h604 => ih _ _ _ h604))) (Ef_no)
    | 7 =>
      refine Ef_eq (by rw [f_X3_makeValue]) ?_
      exact Ef_so hb
    | 8 =>
      refine Ef_eq (by rw [f_X3_makeValue]) ?_
      exact ih _ _ _ hb
    | 9 =>
      refine Ef_eq (by rw [f_X3_makeValue]) ?_
      exact Ef_op (k7_y_X0_progression _ _ _ _ hb) (fun _ h605 => Ef_op (k7_y_X3_replace _ _ _ _ h605) (fun _ h606 => ih _ _ _ h606))
    | 10 =>
      refine Ef_eq (by rw [f_X3_makeValue]) ?_
      exact Ef_ite (Ef_ite (Ef_ite (ih _ _ _ hb) (ih _ _ _ hb)) (Ef_no)) (Ef_no)
    | 11 =>
      refine Ef_eq (by rw [f_X3_makeValue]) ?_
      exact Ef_op (k7_y_X3_replace _ _ _ _ hb) (fun _ h607 => ih _ _ _ h607)
    | 12 =>
      refine Ef_eq (by rw [f_X3_makeValue]) ?_
      exact ih _ _ _ hb
    | 13 =>
      refine Ef_eq (by rw [f_X3_makeValue]) ?_
      exact Ef_op (k7_y_X0_progression _ _ _ _ hb) (fun _ h608 => ih _ _ _ h608)
    | b + 14 =>
      exact Ef_eq (by rw [f_X3_makeValue]) Ef_no
theorem k7_y_X3_goOver__z20 : ∀ (k b : Nat) (L : LV) (σ : CS), K7 w σ → Ey w (y_X3_goOver__z20 k b L σ) := by
  intro k
  induction k with
  | zero => intro b L σ _; exact Ey_no
  | succ k ih =>
    intro b L σ hb
    match b with
    | 0 =>
      refine Ey_eq (by rw [y_X3_goOver__z20]) ?_
      exact Ey_oc (k7_y_X3_pop _ _ _ _ hb) (fun _ h609 => Ey_oc (k7_y_X1_kind _ _ _ _ h609) (fun _ h610 => Ey_ite (ih _ _ _ h610) (Ey_oc (k7_y_X3_fail _ _ _ _ h610) (fun _ h611 => Ey_so h611))))
    | 1 =>
      refine Ey_eq (by rw [y_X3_goOver__z20]) ?_
      exact Ey_ite (ih _ _ _ hb) (Ey_oc (k7_y_X1_size _ _ _ _ hb) (fun _ h612 => Ey_ite (ih _ _ _ h612) (Ey_oc (k7_y_X3_fail _ _ _ _ h612) (fun _ h613 => Ey_so h613))))
    | 2 =>
      refine Ey_eq (by rw [y_X3_goOver__z20]) ?_
      exact Ey_ite (Ey_oc (k7_y_X11_raw _ _ _ _ (uA_K7 (by decide) hb)) (fun _ h614 => Ey_ite (ih _ _ _ (uA_K7 (by decide) h614)) (Ey_no))) (Ey_no)
    | 3 =>
      refine Ey_eq (by rw [y_X3_goOver__z20]) ?_
      exact ih _ _ _ (uI_K7 (by decide) (uI_K7 (by decide) hb))
    | 4 =>
      refine Ey_eq (by rw [y_X3_goOver__z20]) ?_
      exact Ey_so hb
    | b + 5 =>
      exact Ey_eq (by rw [y_X3_goOver__z20]) Ey_no
theorem k7_f_X3_nextMember__z20 : ∀ (k b : Nat) (L : LV) (σ : CS), K7 w σ → Ef w (f_X3_nextMember__z20 k b L σ) := by
  intro k
  induction k with
  | zero => intro b L σ _; exact Ef_no
  | succ k ih =>
    intro b L σ hb
    match b with
    | 0 =>
      refine Ef_eq (by rw [f_X3_nextMember__z20]) ?_
      exact Ef_ite (Ef_ite (Ef_op (k7_y_X11_unraw _ _ _ _ hb) (fun _ h615 => Ef_op (k7_y_X1_length _ _ _ _ h615) (fun _ h616 => Ef_ite (ih _ _ _ h616) (Ef_op (k7_y_X3_letGo__z20 _ _ _ _ h616) (fun _ h617 => Ef_oP (fun _ => Ef_ite (Ef_so (uI_K7 (by decide) h617)) (Ef_no))))))) (Ef_no)) (Ef_no)
    | 1 =>
      refine Ef_eq (by rw [f_X3_nextMember__z20]) ?_
      exact Ef_op (k7_y_X11_raw _ _ _ _ hb) (fun _ h618 => Ef_ite (Ef_op (k7_y_X1_taken _ _ _ _ (uA_K7 (by decide) h618)) (fun _ h619 => Ef_ox (k7_f_X3_push _ _ _ _ h619) (fun _ h620 => ih _ _ _ (uI_K7 (by decide) h620)))) (Ef_no))
    | 2 =>
      refine Ef_eq (by rw [f_X3_nextMember__z20]) ?_
      exact Ef_op (k7_y_X3_spend _ _ _ _ hb) (fun _ h621 => Ef_so h621)
    | b + 3 =>
      exact Ef_eq (by rw [f_X3_nextMember__z20]) Ef_no
theorem k7_y_X3_spread__z20 : ∀ (k b : Nat) (L : LV) (σ : CS), K7 w σ → Ey w (y_X3_spread__z20 k b L σ) := by
  intro k
  induction k with
  | zero => intro b L σ _; exact Ey_no
  | succ k ih =>
    intro b L σ hb
    match b with
    | 0 =>
      refine Ey_eq (by rw [y_X3_spread__z20]) ?_
      exact Ey_oc (k7_y_X3_pop _ _ _ _ hb) (fun _ h622 => Ey_oc (k7_y_X1_kind _ _ _ _ h622) (fun _ h623 => Ey_ite (Ey_oc (k7_y_X1_length _ _ _ _ h623) (fun _ h624 => Ey_ite (ih _ _ _ h624) (ih _ _ _ h624))) (ih _ _ _ h623)))
    | 1 =>
      refine Ey_eq (by rw [y_X3_spread__z20]) ?_
      exact Ey_oc (k7_y_X3_fail _ _ _ _ hb) (fun _ h625 => Ey_so h625)
    | 2 =>
      refine Ey_eq (by rw [y_X3_spread__z20]) ?_
      exact ih _ _ _ hb
    | 3 =>
      refine Ey_eq (by rw [y_X3_spread__z20]) ?_
      exact Ey_ite (ih _ _ _ hb) (Ey_ite (Ey_ite (ih _ _ _ hb) (Ey_oc (k7_y_X1_member _ _ _ _ hb) (fun _ h626 => Ey_oc (k7_y_X3_assign _ _ _ _ h626) (fun _ h627 => ih _ _ _ h627)))) (ih _ _ _ hb))
    | 4 =>
      refine Ey_eq (by rw [y_X3_spread__z20]) ?_
      exact Ey_so hb
    | 5 =>
      refine Ey_eq (by rw [y_X3_spread__z20]) ?_
      exact Ey_oc (k7_y_X1_member _ _ _ _ hb) (fun _ h628 => Ey_ite (ih _ _ _ (uA_K7 (by decide) h628)) (Ey_no))
    | 6 =>
      refine Ey_eq (by rw [y_X3_spread__z20]) ?_
      exact ih _ _ _ hb
    | b + 7 =>
      exact Ey_eq (by rw [y_X3_spread__z20]) Ey_no
theorem k7_y_X3_goOver__a23 : ∀ (k b : Nat) (L : LV) (σ : CS), K7 w σ → Ey w (y_X3_goOver__a23 k b L σ) := by
  intro k
  induction k with
  | zero => intro b L σ _; exact Ey_no
  | succ k ih =>
    intro b L σ hb
    match b with
    | 0 =>
      refine Ey_eq (by rw [y_X3_goOver__a23]) ?_
      exact Ey_oc (k7_y_X3_pop _ _ _ _ hb) (fun _ h629 => Ey_oc (k7_y_X1_kind _ _ _ _ h629) (fun _ h630 => Ey_ite (ih _ _ _ h630) (Ey_oc (k7_y_X3_fail _ _ _ _ h630) (fun _ h631 => Ey_so h631))))
    | 1 =>
      refine Ey_eq (by rw [y_X3_goOver__a23]) ?_
      exact Ey_ite (ih _ _ _ hb) (Ey_oc (k7_y_X1_size _ _ _ _ hb) (fun _ h632 => Ey_ite (ih _ _ _ h632) (Ey_oc (k7_y_X3_fail _ _ _ _ h632) (fun _ h633 => Ey_so h633))))
    | 2 =>
      refine Ey_eq (by rw [y_X3_goOver__a23]) ?_
      exact Ey_ite (Ey_oc (k7_y_X11_raw _ _ _ _ (uA_K7 (by decide) hb)) (fun _ h634 => Ey_ite (ih _ _ _ (uA_K7 (by decide) h634)) (Ey_no))) (Ey_no)
    | 3 =>
      refine Ey_eq (by rw [y_X3_goOver__a23]) ?_
      exact ih _ _ _ (uI_K7 (by decide) (uI_K7 (by decide) hb))
    | 4 =>
      refine Ey_eq (by rw [y_X3_goOver__a23]) ?_
      exact Ey_so hb
    | b + 5 =>
      exact Ey_eq (by rw [y_X3_goOver__a23]) Ey_no
theorem k7_y_X3_letGo__a23 : ∀ (k b : Nat) (L : LV) (σ : CS), K7 w σ → Ey w (y_X3_letGo__a23 k b L σ) := by
  intro k
  induction k with
  | zero => intro b L σ _; exact Ey_no
  | succ k ih =>
    intro b L σ hb
    match b with
    | 0 =>
      refine Ey_eq (by rw [y_X3_letGo__a23]) ?_
      exact Ey_ite (ih _ _ _ hb) (Ey_ite (Ey_ite (ih _ _ _ hb) (Ey_ite (Ey_oc (k7_y_X1_size _ _ _ _ hb) (fun _ h635 => ih _ _ _ (uI_K7 (by decide) (uI_K7 (by decide) h635)))) (Ey_no))) (Ey_no))
    | 1 =>
      refine Ey_eq (by rw [y_X3_letGo__a23]) ?_
      exact Ey_ite (Ey_ite (Ey_so (uA_K7 (by decide) (uA_K7 (by decide) hb))) (Ey_no)) (Ey_no)
    | b + 2 =>
      exact Ey_eq (by rw [y_X3_letGo__a23]) Ey_no
theorem k7_f_X3_nextMember__a23 : ∀ (k b : Nat) (L : LV) (σ : CS), K7 w σ → Ef w (f_X3_nextMember__a23 k b L σ) := by
  intro k
  induction k with
  | zero => intro b L σ _; exact Ef_no
  | succ k ih =>
    intro b L σ hb
    match b with
    | 0 =>
      refine Ef_eq (by rw [f_X3_nextMember__a23]) ?_
      exact Ef_ite (Ef_ite (Ef_op (k7_y_X11_unraw _ _ _ _ hb) (fun _ h636 => Ef_op (k7_y_X1_length _ _ _ _ h636) (fun _ h637 => Ef_ite (ih _ _ _ h637) (Ef_op (k7_y_X3_letGo__a23 _ _ _ _ h637) (fun _ h638 => Ef_oP (fun _ => Ef_ite (Ef_so (uI_K7 (by decide) h638)) (Ef_no))))))) (Ef_no)) (Ef_no)
    | 1 =>
      refine Ef_eq (by rw [f_X3_nextMember__a23]) ?_
      exact Ef_op (k7_y_X11_raw _ _ _ _ hb) (fun _ h639 => Ef_ite (Ef_op (k7_y_X1_taken _ _ _ _ (uA_K7 (by decide) h639)) (fun _ h640 => Ef_ox (k7_f_X3_push _ _ _ _ h640) (fun _ h641 => ih _ _ _ (uI_K7 (by decide) h641)))) (Ef_no))
    | 2 =>
      refine Ef_eq (by rw [f_X3_nextMember__a23]) ?_
      exact Ef_op (k7_y_X3_spend _ _ _ _ hb) (fun _ h642 => Ef_so h642)
    | b + 3 =>
      exact Ef_eq (by rw [f_X3_nextMember__a23]) Ef_no
theorem k7_y_X3_spread__a23 : ∀ (k b : Nat) (L : LV) (σ : CS), K7 w σ → Ey w (y_X3_spread__a23 k b L σ) := by
  intro k
  induction k with
  | zero => intro b L σ _; exact Ey_no
  | succ k ih =>
    intro b L σ hb
    match b with
    | 0 =>
      refine Ey_eq (by rw [y_X3_spread__a23]) ?_
      exact Ey_oc (k7_y_X3_pop _ _ _ _ hb) (fun _ h643 => Ey_oc (k7_y_X1_kind _ _ _ _ h643) (fun _ h644 => Ey_ite (Ey_oc (k7_y_X1_length _ _ _ _ h644) (fun _ h645 => Ey_ite (ih _ _ _ h645) (ih _ _ _ h645))) (ih _ _ _ h644)))
    | 1 =>
      refine Ey_eq (by rw [y_X3_spread__a23]) ?_
      exact Ey_oc (k7_y_X3_fail _ _ _ _ hb) (fun _ h646 => Ey_so h646)
    | 2 =>
      refine Ey_eq (by rw [y_X3_spread__a23]) ?_
      exact ih _ _ _ hb
    | 3 =>
      refine Ey_eq (by rw [y_X3_spread__a23]) ?_
      exact Ey_ite (ih _ _ _ hb) (Ey_ite (Ey_ite (ih _ _ _ hb) (Ey_oc (k7_y_X1_member _ _ _ _ hb) (fun _ h647 => Ey_oc (k7_y_X3_assign _ _ _ _ h647) (fun _ h648 => ih _ _ _ h648)))) (ih _ _ _ hb))
    | 4 =>
      refine Ey_eq (by rw [y_X3_spread__a23]) ?_
      exact Ey_so hb
    | 5 =>
      refine Ey_eq (by rw [y_X3_spread__a23]) ?_
      exact Ey_oc (k7_y_X1_member _ _ _ _ hb) (fun _ h649 => Ey_ite (ih _ _ _ (uA_K7 (by decide) h649)) (Ey_no))
    | 6 =>
      refine Ey_eq (by rw [y_X3_spread__a23]) ?_
      exact ih _ _ _ hb
    | b + 7 =>
      exact Ey_eq (by rw [y_X3_spread__a23]) Ey_no
theorem k7_f_X3_iterate : ∀ (k b : Nat) (L : LV) (σ : CS), K7 w σ → Ef w (f_X3_iterate k b L σ) := by
  intro k
  induction k with
  | zero => intro b L σ _; exact Ef_no
  | succ k ih =>
    intro b L σ hb
    match b with
    | 0 =>
      refine Ef_eq (by rw [f_X3_iterate]) ?_
      exact Ef_ite (ih _ _ _ hb) (ih _ _ _ hb)
    | 1 =>
      refine Ef_eq (by rw [f_X3_iterate]) ?_
      exact ih _ _ _ hb
    | 2 =>
      refine Ef_eq (by rw [f_X3_iterate]) ?_
      exact Ef_ite (ih _ _ _ hb) (ih _ _ _ hb)
    | 3 =>
      refine Ef_eq (by rw [f_X3_iterate]) ?_
      exact ih _ _ _ hb
    | 4 =>
      refine Ef_eq (by rw [f_X3_iterate]) ?_
      exact Ef_ite (ih _ _ _ hb) (ih _ _ _ hb)
    | 5 =>
      refine Ef_eq (by rw [f_X3_iterate]) ?_
      exact Ef_ite (ih _ _ _ hb) (ih _ _ _ hb)
    | 6 =>
      refine Ef_eq (by rw [f_X3_iterate]) ?_
      exact ih _ _ _ hb
    | 7 =>
      refine Ef_eq (by rw [f_X3_iterate]) ?_
      exact Ef_ite (ih _ _ _ hb) (Ef_ite (ih _ _ _ hb) (Ef_ite (ih _ _ _ hb) (Ef_ite (ih _ _ _ hb) (Ef_ite (ih _ _ _ hb) (Ef_ite (ih _ _ _ hb) (Ef_ite (ih _ _ _ hb) (Ef_ite (ih _ _ _ hb) (Ef_ite (ih _ _ _ hb) (ih _ _ _ hb)))))))))
    | 8 =>
      refine Ef_eq (by rw [f_X3_iterate]) ?_
      exact ih _ _ _ hb
    | 9 =>
      refine Ef_eq (by rw [f_X3_iterate]) ?_
      exact Ef_ite (ih _ _ _ hb) (Ef_ite (ih _ _ _ hb) (Ef_ite (ih _ _ _ hb) (Ef_ite (ih _ _ _ hb) (Ef_ite (ih _ _ _ hb) (Ef_ite (ih _ _ _ hb) (Ef_ite (ih _ _ _ hb) (Ef_ite (ih _ _ _ hb) (Ef_ite (ih _ _ _ hb) (ih _ _ _ hb)))))))))
    | 10 =>
      refine Ef_eq (by rw [f_X3_iterate]) ?_
      exact Ef_op (k7_y_X3_goOver__z20 _ _ _ _ hb) (fun _ h650 => ih _ _ _ h650)
    | 11 =>
      refine Ef_eq (by rw [f_X3_iterate]) ?_
      exact Ef_ox (k7_f_X3_nextMember__z20 _ _ _ _ hb) (fun _ h651 => ih _ _ _ h651)
    | 12 =>
      refine Ef_eq (by rw [f_X3_iterate]) ?_
      exact Ef_op (k7_y_X3_pop _ _ _ _ hb) (fun _ h652 => Ef_ite (ih _ _ _ (uA_K7 (by decide) h652)) (Ef_no))
    | 13 =>
      refine Ef_eq (by rw [f_X3_iterate]) ?_
      exact Ef_oP (fun _ => Ef_ite (Ef_op (k7_y_X3_spread__z20 _ _ _ _ hb) (fun _ h653 => ih _ _ _ (uI_K7 (by decide) h653))) (Ef_no))
    | 14 =>
      refine Ef_eq (by rw [f_X3_iterate]) ?_
      exact Ef_oP (fun _ => Ef_ite (ih _ _ _ hb) (Ef_no))
    | 15 =>
      refine Ef_eq (by rw [f_X3_iterate]) ?_
      exact Ef_op (k7_y_X3_pop _ _ _ _ hb) (fun _ h654 => Ef_op (k7_y_X3_assign _ _ _ _ h654) (fun _ h655 => ih _ _ _ h655))
    | 16 =>
      refine Ef_eq (by rw [f_X3_iterate]) ?_
      exact Ef_oP (fun _ => Ef_ite (Ef_oP (fun _ => Ef_ite (Ef_op (k7_y_X3_clearFor _ _ _ _ hb) (fun _ h656 => ih _ _ _ (uI_K7 (by decide) h656))) (Ef_no))) (Ef_no))
    | 17 =>
      refine Ef_eq (by rw [f_X3_iterate]) ?_
      exact Ef_op (k7_y_X3_goOver__a23 _ _ _ _ hb) (fun _ h657 => ih _ _ _ h657)
    | 18 =>
      refine Ef_eq (by rw [f_X3_iterate]) ?_
      exact Ef_ox (k7_f_X3_nextMember__a23 _ _ _ _ hb) (fun _ h658 => ih _ _ _ h658)
    | 19 =>
      refine Ef_eq (by rw [f_X3_iterate]) ?_
      exact Ef_op (k7_y_X3_pop _ _ _ _ hb) (fun _ h659 => Ef_ite (ih _ _ _ (uA_K7 (by decide) h659)) (Ef_no))
    | 20 =>
      refine Ef_eq (by rw [f_X3_iterate]) ?_
      exact Ef_oP (fun _ => Ef_ite (Ef_op (k7_y_X3_spread__a23 _ _ _ _ hb) (fun _ h660 => ih _ _ _ (uI_K7 (by decide) h660))) (Ef_no))
    | 21 =>
      refine Ef_eq (by rw [f_X3_iterate]) ?_
      exact Ef_oP (fun _ => Ef_ite (ih _ _ _ hb) (Ef_no))
    | 22 =>
      refine Ef_eq (by rw [f_X3_iterate]) ?_
      exact Ef_so hb
    | 23 =>
      refine Ef_eq (by rw [f_X3_iterate]) ?_
      exact Ef_ite (ih _ _ _ hb) (Ef_ite (ih _ _ _ (uA_K7 (by decide) hb)) (Ef_no))
    | 24 =>
      refine Ef_eq (by rw [f_X3_iterate]) ?_
      exact Ef_ite (ih _ _ _ hb) (Ef_ite (ih _ _ _ (uA_K7 (by decide) hb)) (Ef_no))
    | 25 =>
      refine Ef_eq (by rw [f_X3_iterate]) ?_
      exact ih _ _ _ (uI_K7 (by decide) hb)
    | b + 26 =>
      exact Ef_eq (by rw [f_X3_iterate]) Ef_no
theorem k7_f_X3_joinSet : ∀ (k b : Nat) (L : LV) (σ : CS), K7 w σ → Ef w (f_X3_joinSet k b L σ) := by
  intro k
  induction k with
  | zero => intro b L σ _; exact Ef_no
  | succ k ih =>
    intro b L σ hb
    match b with
    | 0 =>
      refine Ef_eq (by rw [f_X3_joinSet]) ?_
      exact ih _ _ _ hb
    | 1 =>
      refine Ef_eq (by rw [f_X3_joinSet]) ?_
      exact Ef_ite (ih _ _ _ hb) (Ef_ite (Ef_ite (Ef_ite (ih _ _ _ hb) (ih _ _ _ hb)) (ih _ _ _ hb)) (Ef_no))
    | 2 =>
      refine Ef_eq (by rw [f_X3_joinSet]) ?_
      exact Ef_ite (ih _ _ _ hb) (ih _ _ _ hb)
    | 3 =>
      refine Ef_eq (by rw [f_X3_joinSet]) ?_
      exact ih _ _ _ hb
    | 4 =>
      refine Ef_eq (by rw [f_X3_joinSet]) ?_
      exact ih _ _ _ hb
    | 5 =>
      refine Ef_eq (by rw [f_X3_joinSet]) ?_
      exact Ef_ite (ih _ _ _ hb) (Ef_no)
    | 6 =>
      refine Ef_eq (by rw [f_X3_joinSet]) ?_
      exact Ef_ite (Ef_op (k7_y_X11_raw _ _ _ _ (uI_K7 (by decide) (uA_K7 (by decide) hb))) (fun _ h661 => ih _ _ _ h661)) (Ef_no)
    | 7 =>
      refine Ef_eq (by rw [f_X3_joinSet]) ?_
      exact Ef_ite (ih _ _ _ hb) (Ef_op (k7_y_X0_insert__z20 _ _ _ _ hb) (fun _ h662 => Ef_ite (ih _ _ _ h662) (Ef_op (k7_y_X1_size _ _ _ _ h662) (fun _ h663 => ih _ _ _ h663))))
    | 8 =>
      refine Ef_eq (by rw [f_X3_joinSet]) ?_
      exact Ef_ox (k7_f_X3_push _ _ _ _ hb) (fun _ h664 => Ef_ite (ih _ _ _ h664) (ih _ _ _ h664))
    | 9 =>
      refine Ef_eq (by rw [f_X3_joinSet]) ?_
      exact ih _ _ _ hb
    | 10 =>
      refine Ef_eq (by rw [f_X3_joinSet]) ?_
      exact ih _ _ _ hb
    | 11 =>
      refine Ef_eq (by rw [f_X3_joinSet]) ?_
      exact Ef_op (k7_y_X11_raw _ _ _ _ hb) (fun _ h665 => Ef_ox (k7_f_X3_push _ _ _ _ h665) (fun _ h666 => Ef_so h666))
    | b + 12 =>
      exact Ef_eq (by rw [f_X3_joinSet]) Ef_no
theorem k7_f_X3_joinTuple : ∀ (k b : Nat) (L : LV) (σ : CS), K7 w σ → Ef w (f_X3_joinTuple k b L σ) := by
  intro k
  induction k with
  | zero => intro b L σ _; exact Ef_no
  | succ k ih =>
    intro b L σ hb
    match b with
    | 0 =>
      refine Ef_eq (by rw [f_X3_joinTuple]) ?_
      exact ih _ _ _ hb
    | 1 =>
      refine Ef_eq (by rw [f_X3_joinTuple]) ?_
      exact Ef_ite (ih _ _ _ hb) (Ef_ite (Ef_op (k7_y_X1_size _ _ _ _ hb) (fun _ h667 => Ef_ite (Ef_ite (Ef_ite (ih _ _ _ h667) (Ef_ite (ih _ _ _ h667) (ih _ _ _ h667))) (Ef_no)) (ih _ _ _ h667))) (Ef_no))
    | 2 =>
      refine Ef_eq (by rw [f_X3_joinTuple]) ?_
      exact Ef_op (k7_y_X11_raw _ _ _ _ hb) (fun _ h668 => Ef_ox (k7_f_X3_push _ _ _ _ h668) (fun _ h669 => Ef_ite (ih _ _ _ h669) (ih _ _ _ h669)))
    | 3 =>
      refine Ef_eq (by rw [f_X3_joinTuple]) ?_
      exact ih _ _ _ hb
    | 4 =>
      refine Ef_eq (by rw [f_X3_joinTuple]) ?_
      exact ih _ _ _ hb
    | 5 =>
      refine Ef_eq (by rw [f_X3_joinTuple]) ?_
      exact ih _ _ _ hb
    | 6 =>
      refine Ef_eq (by rw [f_X3_joinTuple]) ?_
      exact Ef_op (k7_y_X11_raw _ _ _ _ hb) (fun _ h670 => Ef_ox (k7_f_X3_push _ _ _ _ h670) (fun _ h671 => Ef_so h671))
    | 7 =>
      refine Ef_eq (by rw [f_X3_joinTuple]) ?_
      exact ih _ _ _ hb
    | b + 8 =>
      exact Ef_eq (by rw [f_X3_joinTuple]) Ef_no
theorem k7_f_X3_gatherIntoSet : ∀ (k b : Nat) (L : LV) (σ : CS), K7 w σ → Ef w (f_X3_gatherIntoSet k b L σ) := by
  intro k
  induction k with
  | zero => intro b L σ _; exact Ef_no
  | succ k ih =>
    intro b L σ hb
    match b with
    | 0 =>
      refine Ef_eq (by rw [f_X3_gatherIntoSet]) ?_
      exact Ef_ite (Ef_op (k7_y_X11_unraw _ _ _ _ hb) (fun _ h672 => Ef_ite (Ef_op (k7_y_X11_unraw _ _ _ _ h672) (fun _ h673 => Ef_ite (Ef_ite (Ef_op (k7_y_X3_fail _ _ _ _ h673) (fun _ h674 => Ef_so h674)) (ih _ _ _ h673)) (ih _ _ _ h673))) (Ef_no))) (Ef_no)
    | 1 =>
      refine Ef_eq (by rw [f_X3_gatherIntoSet]) ?_
      exact Ef_ite (ih _ _ _ hb) (Ef_ite (ih _ _ _ hb) (ih _ _ _ hb))
    | 2 =>
      refine Ef_eq (by rw [f_X3_gatherIntoSet]) ?_
      exact Ef_ox (k7_f_X3_push _ _ _ _ hb) (fun _ h675 => Ef_op (k7_y_X0_insert__z20 _ _ _ _ (uI_K7 (by decide) h675)) (fun _ h676 => Ef_ite (ih _ _ _ h676) (Ef_op (k7_y_X11_raw _ _ _ _ (uI_K7 (by decide) h676)) (fun _ h677 => ih _ _ _ h677))))
    | 3 =>
      refine Ef_eq (by rw [f_X3_gatherIntoSet]) ?_
      exact Ef_ite (ih _ _ _ hb) (Ef_no)
    | 4 =>
      refine Ef_eq (by rw [f_X3_gatherIntoSet]) ?_
      exact Ef_ite (Ef_so (uA_K7 (by decide) hb)) (Ef_no)
    | 5 =>
      refine Ef_eq (by rw [f_X3_gatherIntoSet]) ?_
      exact Ef_so hb
    | 6 =>
      refine Ef_eq (by rw [f_X3_gatherIntoSet]) ?_
      exact Ef_ite (Ef_op (k7_y_X1_size _ _ _ _ (uA_K7 (by decide) hb)) (fun _ h678 => Ef_ite (ih _ _ _ h678) (ih _ _ _ h678))) (Ef_no)
    | 7 =>
      refine Ef_eq (by rw [f_X3_gatherIntoSet]) ?_
      exact Ef_op (k7_y_X1_size _ _ _ _ hb) (fun _ h679 => ih _ _ _ h679)
    | 8 =>
      refine Ef_eq (by rw [f_X3_gatherIntoSet]) ?_
      exact Ef_op (k7_y_X11_raw _ _ _ _ hb) (fun _ h680 => Ef_ite (ih _ _ _ (uA_K7 (by decide) h680)) (Ef_no))
    | b + 9 =>
      exact Ef_eq (by rw [f_X3_gatherIntoSet]) Ef_no
theorem k7_f_X3_gatherIntoTuple : ∀ (k b : Nat) (L : LV) (σ : CS), K7 w σ → Ef w (f_X3_gatherIntoTuple k b L σ) := by
  intro k
  induction k with
  | zero => intro b L σ _; exact Ef_no
  | succ k ih =>
    intro b L σ hb
    match b with
    | 0 =>
      refine Ef_eq (by rw [f_X3_gatherIntoTuple]) ?_
      exact Ef_ite (Ef_op (k7_y_X11_unraw _ _ _ _ hb) (fun _ h681 => Ef_ite (Ef_op (k7_y_X11_unraw _ _ _ _ h681) (fun _ h682 => Ef_ite (ih _ _ _ h682) (Ef_ite (Ef_ite (ih _ _ _ h682) (ih _ _ _ h682)) (ih _ _ _ h682)))) (Ef_no))) (Ef_no)
    | 1 =>
      refine Ef_eq (by rw [f_X3_gatherIntoTuple]) ?_
      exact Ef_so hb
    | 2 =>
      refine Ef_eq (by rw [f_X3_gatherIntoTuple]) ?_
      exact Ef_op (k7_y_X1_size _ _ _ _ hb) (fun _ h683 => Ef_ite (ih _ _ _ h683) (Ef_ite (ih _ _ _ h683) (Ef_ite (ih _ _ _ h683) (ih _ _ _ h683))))
    | 3 =>
      refine Ef_eq (by rw [f_X3_gatherIntoTuple]) ?_
      exact Ef_ite (Ef_ite (Ef_op (k7_y_X11_raw _ _ _ _ (uA_K7 (by decide) hb)) (fun _ h684 => Ef_ite (ih _ _ _ (uA_K7 (by decide) h684)) (Ef_no))) (Ef_no)) (Ef_no)
    | 4 =>
      refine Ef_eq (by rw [f_X3_gatherIntoTuple]) ?_
      exact Ef_op (k7_y_X11_raw _ _ _ _ hb) (fun _ h685 => Ef_ite (Ef_so (uA_K7 (by decide) h685)) (Ef_no))
    | 5 =>
      refine Ef_eq (by rw [f_X3_gatherIntoTuple]) ?_
      exact Ef_ox (k7_f_X3_push _ _ _ _ hb) (fun _ h686 => Ef_op (k7_y_X11_raw _ _ _ _ h686) (fun _ h687 => Ef_ite (Ef_so (uA_K7 (by decide) h687)) (Ef_no)))
    | b + 6 =>
      exact Ef_eq (by rw [f_X3_gatherIntoTuple]) Ef_no
theorem k7_f_X3_gathered : ∀ (k b : Nat) (L : LV) (σ : CS), K7 w σ → Ef w (f_X3_gathered k b L σ) := by
  intro k
  induction k with
  | zero => intro b L σ _; exact Ef_no
  | succ k ih =>
    intro b L σ hb
    match b with
    | 0 =>
      refine Ef_eq (by rw [f_X3_gathered]) ?_
      exact Ef_ite (Ef_op (k7_y_X11_unraw _ _ _ _ hb) (fun _ h688 => Ef_ite (Ef_op (k7_y_X11_unraw _ _ _ _ h688) (fun _ h689 => ih _ _ _ (uI_K7 (by decide) h689))) (Ef_no))) (Ef_no)
    | 1 =>
      refine Ef_eq (by rw [f_X3_gathered]) ?_
      exact Ef_ite (ih _ _ _ hb) (Ef_ite (ih _ _ _ hb) (Ef_ite (Ef_ite (Ef_op (k7_y_X3_fail _ _ _ _ hb) (fun _ h690 => ih _ _ _ h690)) (ih _ _ _ hb)) (Ef_no)))
    | 2 =>
      refine Ef_eq (by rw [f_X3_gathered]) ?_
      exact Ef_ite (ih _ _ _ hb) (Ef_op (k7_y_X3_fail _ _ _ _ hb) (fun _ h691 => ih _ _ _ h691))
    | 3 =>
      refine Ef_eq (by rw [f_X3_gathered]) ?_
      exact Ef_so hb
    | 4 =>
      refine Ef_eq (by rw [f_X3_gathered]) ?_
      exact Ef_ite (ih _ _ _ hb) (Ef_op (k7_y_X1_makeRow__z20 _ _ _ _ hb) (fun _ h692 => ih _ _ _ h692))
    | 5 =>
      refine Ef_eq (by rw [f_X3_gathered]) ?_
      exact Ef_op (k7_y_X1_makeTuple__z20 _ _ _ _ hb) (fun _ h693 => ih _ _ _ h693)
    | 6 =>
      refine Ef_eq (by rw [f_X3_gathered]) ?_
      exact Ef_ox (k7_f_X3_give _ _ _ _ hb) (fun _ h694 => ih _ _ _ h694)
    | b + 7 =>
      exact Ef_eq (by rw [f_X3_gathered]) Ef_no
theorem k7_f_X3_gather : ∀ (k b : Nat) (L : LV) (σ : CS), K7 w σ → Ef w (f_X3_gather k b L σ) := by
  intro k
  induction k with
  | zero => intro b L σ _; exact Ef_no
  | succ k ih =>
    intro b L σ hb
    match b with
    | 0 =>
      refine Ef_eq (by rw [f_X3_gather]) ?_
      exact Ef_ite (ih _ _ _ hb) (Ef_ite (ih _ _ _ hb) (Ef_ite (ih _ _ _ hb) (Ef_ite (ih _ _ _ hb) (Ef_ite (ih _ _ _ hb) (Ef_ite (ih _ _ _ hb) (Ef_ite (ih _ _ _ hb) (ih _ _ _ hb)))))))
    | 1 =>
      refine Ef_eq (by rw [f_X3_gather]) ?_
      exact Ef_op (k7_y_X11_raw _ _ _ _ hb) (fun _ h695 => Ef_ox (k7_f_X3_push _ _ _ _ h695) (fun _ h696 => Ef_op (k7_y_X11_raw _ _ _ _ h696) (fun _ h697 => Ef_ox (k7_f_X3_push _ _ _ _ h697) (fun _ h698 => ih _ _ _ h698))))
    | 2 =>
      refine Ef_eq (by rw [f_X3_gather]) ?_
      exact Ef_op (k7_y_X3_pop _ _ _ _ hb) (fun _ h699 => Ef_ite (ih _ _ _ h699) (ih _ _ _ h699))
    | 3 =>
      refine Ef_eq (by rw [f_X3_gather]) ?_
      exact Ef_op (k7_y_X3_pop _ _ _ _ hb) (fun _ h700 => Ef_ox (k7_f_X3_gatherIntoTuple _ _ _ _ h700) (fun _ h701 => ih _ _ _ h701))
    | 4 =>
      refine Ef_eq (by rw [f_X3_gather]) ?_
      exact Ef_ite (ih _ _ _ hb) (ih _ _ _ hb)
    | 5 =>
      refine Ef_eq (by rw [f_X3_gather]) ?_
      exact Ef_ox (k7_f_X3_joinSet _ _ _ _ hb) (fun _ h702 => ih _ _ _ h702)
    | 6 =>
      refine Ef_eq (by rw [f_X3_gather]) ?_
      exact Ef_ox (k7_f_X3_joinTuple _ _ _ _ hb) (fun _ h703 => ih _ _ _ h703)
    | 7 =>
      refine Ef_eq (by rw [f_X3_gather]) ?_
      exact Ef_so hb
    | 8 =>
      refine Ef_eq (by rw [f_X3_gather]) ?_
      exact ih _ _ _ hb
    | 9 =>
      refine Ef_eq (by rw [f_X3_gather]) ?_
      exact Ef_ox (k7_f_X3_gatherIntoSet _ _ _ _ hb) (fun _ h704 => ih _ _ _ h704)
    | 10 =>
      refine Ef_eq (by rw [f_X3_gather]) ?_
      exact ih _ _ _ hb
    | 11 =>
      refine Ef_eq (by rw [f_X3_gather]) ?_
      exact Ef_ox (k7_f_X3_gathered _ _ _ _ hb) (fun _ h705 => ih _ _ _ h705)
    | b + 12 =>
      exact Ef_eq (by rw [f_X3_gather]) Ef_no
theorem k7_f_X3_takeFrom : ∀ (k b : Nat) (L : LV) (σ : CS), K7 w σ → Ef w (f_X3_takeFrom k b L σ) := by
  intro k
  induction k with
  | zero => intro b L σ _; exact Ef_no
  | succ k ih =>
    intro b L σ hb
    match b with
    | 0 =>
      refine Ef_eq (by rw [f_X3_takeFrom]) ?_
      exact Ef_ite (Ef_op (k7_y_X1_kind _ _ _ _ hb) (fun _ h706 => Ef_ite (Ef_ite (ih _ _ _ h706) (ih _ _ _ h706)) (ih _ _ _ h706))) (Ef_no)
    | 1 =>
      refine Ef_eq (by rw [f_X3_takeFrom]) ?_
      exact Ef_ite (ih _ _ _ hb) (Ef_ite (ih _ _ _ hb) (ih _ _ _ hb))
    | 2 =>
      refine Ef_eq (by rw [f_X3_takeFrom]) ?_
      exact Ef_op (k7_y_X1_length _ _ _ _ hb) (fun _ h707 => Ef_ite (Ef_ite (Ef_ox (k7_f_X3_push _ _ _ _ (uA_K7 (by decide) h707)) (fun _ h708 => Ef_oP (fun _ => Ef_ite (Ef_so (uI_K7 (by decide) h708)) (Ef_no)))) (Ef_no)) (ih _ _ _ h707))
    | 3 =>
      refine Ef_eq (by rw [f_X3_takeFrom]) ?_
      exact Ef_op (k7_y_X3_fail _ _ _ _ hb) (fun _ h709 => Ef_so h709)
    | 4 =>
      refine Ef_eq (by rw [f_X3_takeFrom]) ?_
      exact Ef_ite (ih _ _ _ hb) (ih _ _ _ hb)
    | 5 =>
      refine Ef_eq (by rw [f_X3_takeFrom]) ?_
      exact ih _ _ _ hb
    | 6 =>
      refine Ef_eq (by rw [f_X3_takeFrom]) ?_
      exact Ef_op (k7_y_X1_taken _ _ _ _ hb) (fun _ h710 => Ef_ite (Ef_op (k7_y_X0_remainder _ _ _ _ (uI_K7 (by decide) (uA_K7 (by decide) h710))) (fun _ h711 => Ef_ox (k7_f_X3_give _ _ _ _ h711) (fun _ h712 => Ef_so h712))) (Ef_no))
    | b + 7 =>
      exact Ef_eq (by rw [f_X3_takeFrom]) Ef_no
theorem k7_f_X3_partly : ∀ (k b : Nat) (L : LV) (σ : CS), K7 w σ → Ef w (f_X3_partly k b L σ) := by
  intro k
  induction k with
  | zero => intro b L σ _; exact Ef_no
  | succ k ih =>
    intro b L σ hb
    match b with
    | 0 =>
      refine Ef_eq (by rw [f_X3_partly]) ?_
      exact Ef_ite (ih _ _ _ hb) (Ef_ite (ih _ _ _ hb) (Ef_ite (ih _ _ _ hb) (Ef_ite (ih _ _ _ hb) (Ef_ite (ih _ _ _ hb) (ih _ _ _ hb)))))
    | 1 =>
      refine Ef_eq (by rw [f_X3_partly]) ?_
      exact Ef_ite (Ef_ite (Ef_op (k7_y_X0_part _ _ _ _ (uI_K7 (by decide) hb)) (fun _ h713 => Ef_op (k7_y_X3_replace _ _ _ _ h713) (fun _ h714 => ih _ _ _ h714))) (Ef_no)) (Ef_no)
    | 2 =>
      refine Ef_eq (by rw [f_X3_partly]) ?_
      exact Ef_ite (Ef_ite (Ef_ite (Ef_op (k7_y_X0_part _ _ _ _ (uI_K7 (by decide) hb)) (fun _ h715 => Ef_op (k7_y_X3_replace _ _ _ _ h715) (fun _ h716 => ih _ _ _ h716))) (Ef_no)) (Ef_no)) (Ef_no)
    | 3 =>
      refine Ef_eq (by rw [f_X3_partly]) ?_
      exact Ef_ite (Ef_op (k7_y_X1_member _ _ _ _ hb) (fun _ h717 => Ef_ox (k7_f_X3_push _ _ _ _ h717) (fun _ h718 => ih _ _ _ h718))) (Ef_no)
    | 4 =>
      refine Ef_eq (by rw [f_X3_partly]) ?_
      exact Ef_ite (Ef_op (k7_y_X1_kind _ _ _ _ hb) (fun _ h719 => Ef_ite (ih _ _ _ h719) (Ef_op (k7_y_X3_fail _ _ _ _ h719) (fun _ h720 => ih _ _ _ h720)))) (Ef_no)
    | 5 =>
      refine Ef_eq (by rw [f_X3_partly]) ?_
      exact Ef_ox (k7_f_X3_takeFrom _ _ _ _ hb) (fun _ h721 => ih _ _ _ h721)
    | 6 =>
      refine Ef_eq (by rw [f_X3_partly]) ?_
      exact Ef_so hb
    | b + 7 =>
      exact Ef_eq (by rw [f_X3_partly]) Ef_no
theorem k7_f_X3_fold : ∀ (k b : Nat) (L : LV) (σ : CS), K7 w σ → Ef w (f_X3_fold k b L σ) := by
  intro k
  induction k with
  | zero => intro b L σ _; exact Ef_no
  | succ k ih =>
    intro b L σ hb
    match b with
    | 0 =>
      refine Ef_eq (by rw [f_X3_fold]) ?_
      exact Ef_ite (Ef_op (k7_y_X1_kind _ _ _ _ hb) (fun _ h722 => Ef_ite (ih _ _ _ h722) (Ef_op (k7_y_X3_fail _ _ _ _ h722) (fun _ h723 => ih _ _ _ h723)))) (Ef_no)
    | 1 =>
      refine Ef_eq (by rw [f_X3_fold]) ?_
      exact Ef_op (k7_y_X1_length _ _ _ _ hb) (fun _ h724 => Ef_ite (Ef_op (k7_y_X3_replace _ _ _ _ h724) (fun _ h725 => ih _ _ _ (uI_K7 (by decide) h725))) (ih _ _ _ h724))
    | 2 =>
      refine Ef_eq (by rw [f_X3_fold]) ?_
      exact Ef_so hb
    | 3 =>
      refine Ef_eq (by rw [f_X3_fold]) ?_
      exact Ef_op (k7_y_X1_member _ _ _ _ hb) (fun _ h726 => Ef_ox (k7_f_X3_push _ _ _ _ h726) (fun _ h727 => Ef_op (k7_y_X11_raw _ _ _ _ h727) (fun _ h728 => Ef_ox (k7_f_X3_push _ _ _ _ h728) (fun _ h729 => ih _ _ _ h729))))
    | b + 4 =>
      exact Ef_eq (by rw [f_X3_fold]) Ef_no
theorem k7_f_X3_foldOn : ∀ (k b : Nat) (L : LV) (σ : CS), K7 w σ → Ef w (f_X3_foldOn k b L σ) := by
  intro k
  induction k with
  | zero => intro b L σ _; exact Ef_no
  | succ k ih =>
    intro b L σ hb
    match b with
    | 0 =>
      refine Ef_eq (by rw [f_X3_foldOn]) ?_
      exact Ef_ite (Ef_ox (k7_f_X3_fold _ _ _ _ hb) (fun _ h730 => Ef_so h730)) (ih _ _ _ hb)
    | 1 =>
      refine Ef_eq (by rw [f_X3_foldOn]) ?_
      exact Ef_ite (Ef_op (k7_y_X11_unraw _ _ _ _ hb) (fun _ h731 => Ef_ite (Ef_ite (Ef_op (k7_y_X1_length _ _ _ _ h731) (fun _ h732 => Ef_ite (ih _ _ _ h732) (Ef_op (k7_y_X3_replace _ _ _ _ (uI_K7 (by decide) h732)) (fun _ h733 => Ef_so h733)))) (Ef_no)) (Ef_no))) (Ef_no)
    | 2 =>
      refine Ef_eq (by rw [f_X3_foldOn]) ?_
      exact Ef_op (k7_y_X1_member _ _ _ _ hb) (fun _ h734 => Ef_ite (Ef_op (k7_y_X0_sum _ _ _ _ h734) (fun _ h735 => ih _ _ _ h735)) (ih _ _ _ h734))
    | 3 =>
      refine Ef_eq (by rw [f_X3_foldOn]) ?_
      exact Ef_ite (Ef_op (k7_y_X0_product _ _ _ _ hb) (fun _ h736 => ih _ _ _ h736)) (ih _ _ _ hb)
    | 4 =>
      refine Ef_eq (by rw [f_X3_foldOn]) ?_
      exact Ef_op (k7_y_X11_isError _ _ _ _ hb) (fun _ h737 => Ef_ite (ih _ _ _ h737) (Ef_op (k7_y_X3_fail _ _ _ _ h737) (fun _ h738 => Ef_so h738)))
    | 5 =>
      refine Ef_eq (by rw [f_X3_foldOn]) ?_
      exact Ef_ite (ih _ _ _ hb) (ih _ _ _ hb)
    | 6 =>
      refine Ef_eq (by rw [f_X3_foldOn]) ?_
      exact Ef_ite (Ef_op (k7_y_X11_raw _ _ _ _ (uA_K7 (by decide) hb)) (fun _ h739 => Ef_ite (ih _ _ _ (uA_K7 (by decide) h739)) (Ef_no))) (Ef_no)
    | 7 =>
      refine Ef_eq (by rw [f_X3_foldOn]) ?_
      exact ih _ _ _ hb
    | 8 =>
      refine Ef_eq (by rw [f_X3_foldOn]) ?_
      exact Ef_op (k7_y_X0_larger _ _ _ _ hb) (fun _ h740 => ih _ _ _ h740)
    | 9 =>
      refine Ef_eq (by rw [f_X3_foldOn]) ?_
      exact Ef_ite (ih _ _ _ (uI_K7 (by decide) hb)) (Ef_op (k7_y_X1_size _ _ _ _ (uI_K7 (by decide) hb)) (fun _ h741 => Ef_op (k7_y_X3_spend _ _ _ _ h741) (fun _ h742 => ih _ _ _ h742)))
    | 10 =>
      refine Ef_eq (by rw [f_X3_foldOn]) ?_
      exact Ef_so hb
    | b + 11 =>
      exact Ef_eq (by rw [f_X3_foldOn]) Ef_no
theorem k7_f_X3_read : ∀ (k b : Nat) (L : LV) (σ : CS), K7 w σ → Ef w (f_X3_read k b L σ) := by
  intro k
  induction k with
  | zero => intro b L σ _; exact Ef_no
  | succ k ih =>
    intro b L σ hb
    match b with
    | 0 =>
      refine Ef_eq (by rw [f_X3_read]) ?_
      exact Ef_oP (fun _ => Ef_ite (Ef_oP (fun _ => Ef_ite (Ef_ite (Ef_ox (k7_f_X3_push _ _ _ _ (uI_K7 (by decide) hb)) (fun _ h743 => ih _ _ _ h743)) (Ef_no)) (Ef_no))) (Ef_no))
    | 1 =>
      refine Ef_eq (by rw [f_X3_read]) ?_
      exact Ef_ite (ih _ _ _ hb) (Ef_ite (Ef_ox (k7_f_X3_makeRoom _ _ _ _ hb) (fun _ h744 => Ef_oP (fun _ => Ef_ite (Ef_ite (Ef_ite (Ef_ite (Ef_op (k7_y_X0_part _ _ _ _ h744) (fun _ h745 => Ef_op (k7_y_X3_replace _ _ _ _ h745) (fun _ h746 => Ef_ite (ih _ _ _ h746) (ih _ _ _ h746)))) (Ef_no)) (Ef_no)) (Ef_no)) (Ef_no)))) (ih _ _ _ hb))
    | 2 =>
      refine Ef_eq (by rw [f_X3_read]) ?_
      exact Ef_so hb
    | 3 =>
      refine Ef_eq (by rw [f_X3_read]) ?_
      exact ih _ _ _ hb
    | 4 =>
      refine Ef_eq (by rw [f_X3_read]) ?_
      exact ih _ _ _ hb
    | b + 5 =>
      exact Ef_eq (by rw [f_X3_read]) Ef_no
theorem k7_f_X3_write : ∀ (k b : Nat) (L : LV) (σ : CS), K7 w σ → Ef w (f_X3_write k b L σ) := by
  intro k
  induction k with
  | zero => intro b L σ _; exact Ef_no
  | succ k ih =>
    intro b L σ hb
    match b with
    | 0 =>
      refine Ef_eq (by rw [f_X3_write]) ?_
      exact Ef_oP (fun _ => Ef_ite (Ef_oP (fun _ => Ef_ite (Ef_ite (Ef_ox (k7_f_X3_push _ _ _ _ (uI_K7 (by decide) hb)) (fun _ h747 => ih _ _ _ h747)) (Ef_no)) (Ef_no))) (Ef_no))
    | 1 =>
      refine Ef_eq (by rw [f_X3_write]) ?_
      exact Ef_ite (ih _ _ _ hb) (Ef_ite (Ef_ox (k7_f_X3_makeRoom _ _ _ _ hb) (fun _ h748 => Ef_oP (fun _ => Ef_ite (Ef_ox (k7_f_X3_push _ _ _ _ h748) (fun _ h749 => Ef_ite (Ef_ite (Ef_ite (Ef_op (k7_y_X0_part _ _ _ _ h749) (fun _ h750 => Ef_op (k7_y_X3_replace _ _ _ _ h750) (fun _ h751 => Ef_ite (ih _ _ _ h751) (ih _ _ _ h751)))) (Ef_no)) (Ef_no)) (Ef_no))) (Ef_no)))) (ih _ _ _ hb))
    | 2 =>
      refine Ef_eq (by rw [f_X3_write]) ?_
      exact Ef_ite (Ef_ox (k7_f_X3_push _ _ _ _ hb) (fun _ h752 => ih _ _ _ h752)) (Ef_no)
    | 3 =>
      refine Ef_eq (by rw [f_X3_write]) ?_
      exact ih _ _ _ hb
    | 4 =>
      refine Ef_eq (by rw [f_X3_write]) ?_
      exact ih _ _ _ hb
    | 5 =>
      refine Ef_eq (by rw [f_X3_write]) ?_
      exact Ef_ite (ih _ _ _ hb) (Ef_ite (Ef_ox (k7_f_X3_makeRoom _ _ _ _ hb) (fun _ h753 => Ef_oP (fun _ => Ef_ite (Ef_ite (ih _ _ _ h753) (ih _ _ _ h753)) (Ef_no)))) (ih _ _ _ hb))
    | 6 =>
      refine Ef_eq (by rw [f_X3_write]) ?_
      exact Ef_ite (Ef_ite (Ef_op (k7_y_X3_assign _ _ _ _ hb) (fun _ h754 => ih _ _ _ h754)) (Ef_no)) (ih _ _ _ hb)
    | 7 =>
      refine Ef_eq (by rw [f_X3_write]) ?_
      exact Ef_ite (ih _ _ _ hb) (ih _ _ _ hb)
    | 8 =>
      refine Ef_eq (by rw [f_X3_write]) ?_
      exact Ef_ite (Ef_ite (Ef_ite (Ef_ite (Ef_op (k7_y_X0_written _ _ _ _ (uI_K7 (by decide) hb)) (fun _ h755 => Ef_op (k7_y_X3_replace _ _ _ _ h755) (fun _ h756 => ih _ _ _ h756))) (Ef_no)) (Ef_no)) (Ef_no)) (Ef_no)
    | 9 =>
      refine Ef_eq (by rw [f_X3_write]) ?_
      exact Ef_so (uI_K7 (by decide) hb)
    | 10 =>
      refine Ef_eq (by rw [f_X3_write]) ?_
      exact ih _ _ _ hb
    | 11 =>
      refine Ef_eq (by rw [f_X3_write]) ?_
      exact ih _ _ _ hb
    | b + 12 =>
      exact Ef_eq (by rw [f_X3_write]) Ef_no
theorem k7_f_X6_printPlain : ∀ (k b : Nat) (L : LV) (σ : CS), K7 w σ → Ef w (f_X6_printPlain k b L σ) := by
  intro k
  induction k with
  | zero => intro b L σ _; exact Ef_no
  | succ k ih =>
    intro b L σ hb
    match b with
    | 0 =>
      refine Ef_eq (by rw [f_X6_printPlain]) ?_
      exact Ef_op (k7_y_X1_kind _ _ _ _ (uI_K7 (by decide) hb)) (fun _ h757 => Ef_ite (Ef_op (k7_y_X6_writeBytes _ _ _ _ h757) (fun _ h758 => ih _ _ _ h758)) (ih _ _ _ h757))
    | 1 =>
      refine Ef_eq (by rw [f_X6_printPlain]) ?_
      exact Ef_ox (k7_f_X6_write _ _ _ _ hb) (fun _ h759 => ih _ _ _ h759)
    | 2 =>
      refine Ef_eq (by rw [f_X6_printPlain]) ?_
      exact Ef_so hb
    | b + 3 =>
      exact Ef_eq (by rw [f_X6_printPlain]) Ef_no
theorem k7_f_X3_putOut : ∀ (k b : Nat) (L : LV) (σ : CS), K7 w σ → Ef w (f_X3_putOut k b L σ) := by
  intro k
  induction k with
  | zero => intro b L σ _; exact Ef_no
  | succ k ih =>
    intro b L σ hb
    match b with
    | 0 =>
      refine Ef_eq (by rw [f_X3_putOut]) ?_
      exact Ef_ite (ih _ _ _ hb) (Ef_ite (Ef_ite (Ef_ite (Ef_ad (ih _ _ _ (uZ_K7 (by decide) hb))) (Ef_no)) (ih _ _ _ hb)) (Ef_no))
    | 1 =>
      refine Ef_eq (by rw [f_X3_putOut]) ?_
      exact Ef_op (k7_y_X3_countOut _ _ _ _ hb) (fun _ h760 => Ef_so h760)
    | 2 =>
      refine Ef_eq (by rw [f_X3_putOut]) ?_
      exact Ef_ite (Ef_ite (ih _ _ _ (uF_K7 (by decide) hb)) (Ef_no)) (Ef_no)
    | b + 3 =>
      exact Ef_eq (by rw [f_X3_putOut]) Ef_no
theorem k7_f_X3_print : ∀ (k b : Nat) (L : LV) (σ : CS), K7 w σ → Ef w (f_X3_print k b L σ) := by
  intro k
  induction k with
  | zero => intro b L σ _; exact Ef_no
  | succ k ih =>
    intro b L σ hb
    match b with
    | 0 =>
      refine Ef_eq (by rw [f_X3_print]) ?_
      exact ih _ _ _ hb
    | 1 =>
      refine Ef_eq (by rw [f_X3_print]) ?_
      exact Ef_ite (ih _ _ _ hb) (Ef_ite (ih _ _ _ hb) (Ef_ite (Ef_ite (Ef_ite (ih _ _ _ hb) (ih _ _ _ hb)) (Ef_no)) (Ef_no)))
    | 2 =>
      refine Ef_eq (by rw [f_X3_print]) ?_
      exact Ef_so (uI_K7 (by decide) hb)
    | 3 =>
      refine Ef_eq (by rw [f_X3_print]) ?_
      exact ih _ _ _ hb
    | 4 =>
      refine Ef_eq (by rw [f_X3_print]) ?_
      exact Ef_ite (ih _ _ _ hb) (Ef_ite (Ef_op (k7_y_X1_kind _ _ _ _ hb) (fun _ h761 => Ef_ite (Ef_ite (Ef_op (k7_y_X1_length _ _ _ _ h761) (fun _ h762 => Ef_op (k7_y_X3_countOut _ _ _ _ h762) (fun _ h763 => ih _ _ _ h763))) (Ef_no)) (ih _ _ _ h761))) (Ef_no))
    | 5 =>
      refine Ef_eq (by rw [f_X3_print]) ?_
      exact Ef_ite (ih _ _ _ hb) (Ef_ite (ih _ _ _ hb) (Ef_op (k7_y_X3_countOut _ _ _ _ hb) (fun _ h764 => ih _ _ _ h764)))
    | 6 =>
      refine Ef_eq (by rw [f_X3_print]) ?_
      exact ih _ _ _ hb
    | 7 =>
      refine Ef_eq (by rw [f_X3_print]) ?_
      exact Ef_ite (Ef_ox (k7_f_X6_printPlain _ _ _ _ hb) (fun _ h765 => Ef_ite (ih _ _ _ h765) (ih _ _ _ h765))) (Ef_no)
    | 8 =>
      refine Ef_eq (by rw [f_X3_print]) ?_
      exact ih _ _ _ hb
    | 9 =>
      refine Ef_eq (by rw [f_X3_print]) ?_
      exact Ef_op (k7_y_X6_put _ _ _ _ hb) (fun _ h766 => Ef_ox (k7_f_X3_putOut _ _ _ _ h766) (fun _ h767 => ih _ _ _ h767))
    | b + 10 =>
      exact Ef_eq (by rw [f_X3_print]) Ef_no
theorem k7_f_X3_execute : ∀ (k b : Nat) (L : LV) (σ : CS), K7 w σ → Ef w (f_X3_execute k b L σ) := by
  intro k
  induction k with
  | zero => intro b L σ _; exact Ef_no
  | succ k ih =>
    intro b L σ hb
    match b with
    | 0 =>
      refine Ef_eq (by rw [f_X3_execute]) ?_
      exact Ef_op (k7_y_X3_beginWork _ _ _ _ hb) (fun _ h768 => Ef_oP (fun _ => ih _ _ _ h768))
    | 1 =>
      refine Ef_eq (by rw [f_X3_execute]) ?_
      exact Ef_ite (ih _ _ _ hb) (Ef_ite (Ef_op (k7_y_X1_isTight _ _ _ _ hb) (fun _ h769 => Ef_ite (ih _ _ _ h769) (Ef_ox (k7_f_X3_makeRoom _ _ _ _ h769) (fun _ h770 => ih _ _ _ h770)))) (ih _ _ _ hb))
    | 2 =>
      refine Ef_eq (by rw [f_X3_execute]) ?_
      exact Ef_so hb
    | 3 =>
      refine Ef_eq (by rw [f_X3_execute]) ?_
      exact Ef_ite (ih _ _ _ hb) (Ef_ite (ih _ _ _ hb) (ih _ _ _ hb))
    | 4 =>
      refine Ef_eq (by rw [f_X3_execute]) ?_
      exact Ef_so hb
    | 5 =>
      refine Ef_eq (by rw [f_X3_execute]) ?_
      exact Ef_ite (Ef_ite (Ef_ite (ih _ _ _ (uI_K7 (by decide) hb)) (Ef_ite (ih _ _ _ (uI_K7 (by decide) hb)) (Ef_ite (ih _ _ _ (uI_K7 (by decide) hb)) (Ef_ite (ih _ _ _ (uI_K7 (by decide) hb)) (Ef_ite (ih _ _ _ (uI_K7 (by decide) hb)) (Ef_ite (ih _ _ _ (uI_K7 (by decide) hb)) (Ef_ite (ih _ _ _ (uI_K7 (by decide) hb)) (Ef_ite (ih _ _ _ (uI_K7 (by decide) hb)) (Ef_ite (ih _ _ _ (uI_K7 (by decide) hb)) (Ef_ite (ih _ _ _ (uI_K7 (by decide) hb)) (Ef_ite (ih _ _ _ (uI_K7 (by decide) hb)) (Ef_ite (ih _ _ _ (uI_K7 (by decide) hb)) (Ef_ite (ih _ _ _ (uI_K7 (by decide) hb)) (ih _ _ _ (uI_K7 (by decide) hb))))))))))))))) (Ef_no)) (Ef_no)
    | 6 =>
      refine Ef_eq (by rw [f_X3_execute]) ?_
      exact Ef_ox (k7_f_X3_flow _ _ _ _ hb) (fun _ h771 => ih _ _ _ h771)
    | 7 =>
      refine Ef_eq (by rw [f_X3_execute]) ?_
      exact Ef_ox (k7_f_X3_callsAndPoints _ _ _ _ hb) (fun _ h772 => ih _ _ _ h772)
    | 8 =>
      refine Ef_eq (by rw [f_X3_execute]) ?_
      exact Ef_ox (k7_f_X3_data _ _ _ _ hb) (fun _ h773 => ih _ _ _ h773)
    | 9 =>
      refine Ef_eq (by rw [f_X3_execute]) ?_
      exact Ef_ox (k7_f_X3_makeValue _ _ _ _ hb) (fun _ h774 => ih _ _ _ h774)
    | 10 =>
      refine Ef_eq (by rw [f_X3_execute]) ?_
      exact Ef_ox (k7_f_X3_iterate _ _ _ _ hb) (fun _ h775 => ih _ _ _ h775)
    | 11 =>
      refine Ef_eq (by rw [f_X3_execute]) ?_
      exact Ef_ox (k7_f_X3_gather _ _ _ _ hb) (fun _ h776 => ih _ _ _ h776)
    | 12 =>
      refine Ef_eq (by rw [f_X3_execute]) ?_
      exact Ef_ox (k7_f_X3_partly _ _ _ _ hb) (fun _ h777 => ih _ _ _ h777)
    | 13 =>
      refine Ef_eq (by rw [f_X3_execute]) ?_
      exact Ef_ox (k7_f_X3_foldOn _ _ _ _ hb) (fun _ h778 => ih _ _ _ h778)
    | 14 =>
      refine Ef_eq (by rw [f_X3_execute]) ?_
      exact Ef_ite (Ef_ite (Ef_op (k7_y_X0_binary _ _ _ _ (uI_K7 (by decide) hb)) (fun _ h779 => Ef_op (k7_y_X3_replace _ _ _ _ h779) (fun _ h780 => ih _ _ _ h780))) (Ef_no)) (Ef_no)
    | 15 =>
      refine Ef_eq (by rw [f_X3_execute]) ?_
      exact Ef_ox (k7_f_X3_print _ _ _ _ hb) (fun _ h781 => ih _ _ _ h781)
    | 16 =>
      refine Ef_eq (by rw [f_X3_execute]) ?_
      exact Ef_ite (Ef_ox (k7_f_X0_unary _ _ _ _ hb) (fun _ h782 => Ef_op (k7_y_X3_replace _ _ _ _ h782) (fun _ h783 => ih _ _ _ h783))) (Ef_no)
    | 17 =>
      refine Ef_eq (by rw [f_X3_execute]) ?_
      exact Ef_ite (ih _ _ _ hb) (ih _ _ _ hb)
    | 18 =>
      refine Ef_eq (by rw [f_X3_execute]) ?_
      exact Ef_ite (ih _ _ _ hb) (ih _ _ _ hb)
    | 19 =>
      refine Ef_eq (by rw [f_X3_execute]) ?_
      exact ih _ _ _ hb
    | 20 =>
      refine Ef_eq (by rw [f_X3_execute]) ?_
      exact ih _ _ _ hb
    | 21 =>
      refine Ef_eq (by rw [f_X3_execute]) ?_
      exact Ef_ox (k7_f_X3_read _ _ _ _ hb) (fun _ h784 => ih _ _ _ h784)
    | 22 =>
      refine Ef_eq (by rw [f_X3_execute]) ?_
      exact ih _ _ _ hb
    | 23 =>
      refine Ef_eq (by rw [f_X3_execute]) ?_
      exact Ef_ite (ih _ _ _ hb) (ih _ _ _ hb)
    | 24 =>
      refine Ef_eq (by rw [f_X3_execute]) ?_
      exact ih _ _ _ hb
    | 25 =>
      refine Ef_eq (by rw [f_X3_execute]) ?_
      exact Ef_ox (k7_f_X3_write _ _ _ _ hb) (fun _ h785 => ih _ _ _ h785)
    | b + 26 =>
      exact Ef_eq (by rw [f_X3_execute]) Ef_no
theorem k7_y_J7_fill_53178__a23 : ∀ (k b : Nat) (L : LV) (σ : CS), K7 w σ → Ey w (y_J7_fill_53178__a23 k b L σ) := by
  intro k
  induction k with
  | zero => intro b L σ _; exact Ey_no
  | succ k ih =>
    intro b L σ hb
    match b with
    | 0 =>
      refine Ey_eq (by rw [y_J7_fill_53178__a23]) ?_
      exact ih _ _ _ hb
    | 1 =>
      refine Ey_eq (by rw [y_J7_fill_53178__a23]) ?_
      exact Ey_ite (ih _ _ _ hb) (Ey_ite (ih _ _ _ (uA_K7 (by decide) hb)) (Ey_no))
    | 2 =>
      refine Ey_eq (by rw [y_J7_fill_53178__a23]) ?_
      exact Ey_so hb
    | b + 3 =>
      exact Ey_eq (by rw [y_J7_fill_53178__a23]) Ey_no
theorem k7_f_X3_advance : ∀ (k b : Nat) (L : LV) (σ : CS), K7 w σ → Ef w (f_X3_advance k b L σ) := by
  intro k
  induction k with
  | zero => intro b L σ _; exact Ef_no
  | succ k ih =>
    intro b L σ hb
    match b with
    | 0 =>
      refine Ef_eq (by rw [f_X3_advance]) ?_
      exact Ef_oN (ih _ _ _ hb) (Ef_ite (ih _ _ _ hb) (ih _ _ _ hb))
    | 1 =>
      refine Ef_eq (by rw [f_X3_advance]) ?_
      exact Ef_so hb
    | 2 =>
      refine Ef_eq (by rw [f_X3_advance]) ?_
      exact Ef_op (k7_y_X9_expect _ _ _ _ (uI_K7 (by decide) hb)) (fun _ h786 => Ef_ox (k7_f_X3_execute _ _ _ _ h786) (fun _ h787 => Ef_ite (ih _ _ _ h787) (Ef_op (k7_y_J7_fill_53178__a23 _ _ _ _ h787) (fun _ h788 => ih _ _ _ (uI_K7 (by decide) h788)))))
    | 3 =>
      refine Ef_eq (by rw [f_X3_advance]) ?_
      exact Ef_so hb
    | 4 =>
      refine Ef_eq (by rw [f_X3_advance]) ?_
      exact Ef_oP (fun _ => Ef_ite (ih _ _ _ (uI_K7 (by decide) (uI_K7 (by decide) (uI_K7 (by decide) hb)))) (Ef_no))
    | b + 5 =>
      exact Ef_eq (by rw [f_X3_advance]) Ef_no
theorem k7_f_X11_back : ∀ (k b : Nat) (L : LV) (σ : CS), K7 w σ → Ef w (f_X11_back k b L σ) := by
  intro k
  induction k with
  | zero => intro b L σ _; exact Ef_no
  | succ k ih =>
    intro b L σ hb
    match b with
    | 0 =>
      refine Ef_eq (by rw [f_X11_back]) ?_
      exact Ef_ox (k7_f_X11_wantRun _ _ _ _ hb) (fun _ h789 => Ef_ite (ih _ _ _ h789) (Ef_ite (ih _ _ _ h789) (ih _ _ _ h789)))
    | 1 =>
      refine Ef_eq (by rw [f_X11_back]) ?_
      exact Ef_so hb
    | 2 =>
      refine Ef_eq (by rw [f_X11_back]) ?_
      exact Ef_ite (ih _ _ _ hb) (Ef_ox (k7_f_X3_goBack _ _ _ _ hb) (fun _ h790 => Ef_ox (k7_f_X3_advance _ _ _ _ h790) (fun _ h791 => ih _ _ _ h791)))
    | 3 =>
      refine Ef_eq (by rw [f_X11_back]) ?_
      exact Ef_so hb
    | b + 4 =>
      exact Ef_eq (by rw [f_X11_back]) Ef_no
theorem k7_f_X11_count : ∀ (k b : Nat) (L : LV) (σ : CS), K7 w σ → Ef w (f_X11_count k b L σ) := by
  intro k
  induction k with
  | zero => intro b L σ _; exact Ef_no
  | succ k ih =>
    intro b L σ hb
    match b with
    | 0 =>
      refine Ef_eq (by rw [f_X11_count]) ?_
      exact Ef_ite (ih _ _ _ hb) (Ef_ite (ih _ _ _ hb) (Ef_ite (ih _ _ _ hb) (Ef_ite (ih _ _ _ hb) (Ef_ite (ih _ _ _ hb) (ih _ _ _ hb)))))
    | 1 =>
      refine Ef_eq (by rw [f_X11_count]) ?_
      exact Ef_so hb
    | 2 =>
      refine Ef_eq (by rw [f_X11_count]) ?_
      exact Ef_so hb
    | 3 =>
      refine Ef_eq (by rw [f_X11_count]) ?_
      exact Ef_ite (Ef_so hb) (Ef_no)
    | 4 =>
      refine Ef_eq (by rw [f_X11_count]) ?_
      exact Ef_so hb
    | 5 =>
      refine Ef_eq (by rw [f_X11_count]) ?_
      exact Ef_so hb
    | 6 =>
      refine Ef_eq (by rw [f_X11_count]) ?_
      exact Ef_so hb
    | b + 7 =>
      exact Ef_eq (by rw [f_X11_count]) Ef_no
theorem k7_f_X11_end : ∀ (k b : Nat) (L : LV) (σ : CS), K7 w σ → Ef w (f_X11_end k b L σ) := by
  intro k
  induction k with
  | zero => intro b L σ _; exact Ef_no
  | succ k ih =>
    intro b L σ hb
    match b with
    | 0 =>
      refine Ef_eq (by rw [f_X11_end]) ?_
      exact Ef_ite (ih _ _ _ hb) (Ef_ite (ih _ _ _ hb) (ih _ _ _ hb))
    | 1 =>
      refine Ef_eq (by rw [f_X11_end]) ?_
      exact Ef_so hb
    | 2 =>
      refine Ef_eq (by rw [f_X11_end]) ?_
      exact Ef_so (uI_K7 (by decide) hb)
    | b + 3 =>
      exact Ef_eq (by rw [f_X11_end]) Ef_no
theorem k7_f_X2_widen : ∀ (k b : Nat) (L : LV) (σ : CS), K7 w σ → Ef w (f_X2_widen k b L σ) := by
  intro k
  induction k with
  | zero => intro b L σ _; exact Ef_no
  | succ k ih =>
    intro b L σ hb
    match b with
    | 0 =>
      refine Ef_eq (by rw [f_X2_widen]) ?_
      exact Ef_ite (ih _ _ _ hb) (ih _ _ _ hb)
    | 1 =>
      refine Ef_eq (by rw [f_X2_widen]) ?_
      exact ih _ _ _ hb
    | 2 =>
      refine Ef_eq (by rw [f_X2_widen]) ?_
      exact Ef_ite (Ef_ite (Ef_ite (Ef_ad (ih _ _ _ (uZ_K7 (by decide) hb))) (Ef_no)) (ih _ _ _ hb)) (Ef_no)
    | 3 =>
      refine Ef_eq (by rw [f_X2_widen]) ?_
      exact Ef_so hb
    | b + 4 =>
      exact Ef_eq (by rw [f_X2_widen]) Ef_no
theorem k7_f_X2_append : ∀ (k b : Nat) (L : LV) (σ : CS), K7 w σ → Ef w (f_X2_append k b L σ) := by
  intro k
  induction k with
  | zero => intro b L σ _; exact Ef_no
  | succ k ih =>
    intro b L σ hb
    match b with
    | 0 =>
      refine Ef_eq (by rw [f_X2_append]) ?_
      exact Ef_ox (k7_f_X2_widen _ _ _ _ hb) (fun _ h792 => ih _ _ _ h792)
    | 1 =>
      refine Ef_eq (by rw [f_X2_append]) ?_
      exact Ef_ite (ih _ _ _ hb) (Ef_ite (ih _ _ _ (uI_K7 (by decide) (uA_K7 (by decide) hb))) (Ef_no))
    | 2 =>
      refine Ef_eq (by rw [f_X2_append]) ?_
      exact Ef_so hb
    | b + 3 =>
      exact Ef_eq (by rw [f_X2_append]) Ef_no
theorem k7_f_X11_feed : ∀ (k b : Nat) (L : LV) (σ : CS), K7 w σ → Ef w (f_X11_feed k b L σ) := by
  intro k
  induction k with
  | zero => intro b L σ _; exact Ef_no
  | succ k ih =>
    intro b L σ hb
    match b with
    | 0 =>
      refine Ef_eq (by rw [f_X11_feed]) ?_
      exact Ef_ite (ih _ _ _ hb) (Ef_so hb)
    | 1 =>
      refine Ef_eq (by rw [f_X11_feed]) ?_
      exact Ef_ox (k7_f_X2_append _ _ _ _ hb) (fun _ h793 => Ef_ox (k7_f_X2_append _ _ _ _ h793) (fun _ h794 => Ef_ox (k7_f_X2_append _ _ _ _ h794) (fun _ h795 => Ef_ox (k7_f_X2_append _ _ _ _ h795) (fun _ h796 => Ef_ox (k7_f_X2_append _ _ _ _ h796) (fun _ h797 => Ef_so h797)))))
    | b + 2 =>
      exact Ef_eq (by rw [f_X11_feed]) Ef_no
theorem k7_f_X11_out : ∀ (k b : Nat) (L : LV) (σ : CS), K7 w σ → Ef w (f_X11_out k b L σ) := by
  intro k
  induction k with
  | zero => intro b L σ _; exact Ef_no
  | succ k ih =>
    intro b L σ hb
    match b with
    | 0 =>
      refine Ef_eq (by rw [f_X11_out]) ?_
      exact Ef_ite (ih _ _ _ hb) (Ef_ite (ih _ _ _ hb) (Ef_ite (ih _ _ _ hb) (Ef_ite (ih _ _ _ hb) (Ef_ite (ih _ _ _ hb) (ih _ _ _ hb)))))
    | 1 =>
      refine Ef_eq (by rw [f_X11_out]) ?_
      exact Ef_so hb
    | 2 =>
      refine Ef_eq (by rw [f_X11_out]) ?_
      exact Ef_ite (Ef_so hb) (Ef_no)
    | b + 3 =>
      exact Ef_eq (by rw [f_X11_out]) Ef_no
theorem k7_f_X2_rewind : ∀ (k b : Nat) (L : LV) (σ : CS), K7 w σ → Ef w (f_X2_rewind k b L σ) := by
  intro k
  induction k with
  | zero => intro b L σ _; exact Ef_no
  | succ k ih =>
    intro b L σ hb
    match b with
    | 0 =>
      refine Ef_eq (by rw [f_X2_rewind]) ?_
      exact Ef_ox (k7_f_X2_widen _ _ _ _ hb) (fun _ h798 => Ef_ite (Ef_ite (ih _ _ _ (uI_K7 (by decide) (uA_K7 (by decide) (uA_K7 (by decide) h798)))) (Ef_no)) (Ef_no))
    | 1 =>
      refine Ef_eq (by rw [f_X2_rewind]) ?_
      exact Ef_so hb
    | b + 2 =>
      exact Ef_eq (by rw [f_X2_rewind]) Ef_no
theorem k7_f_X2_advance : ∀ (k b : Nat) (L : LV) (σ : CS), K7 w σ → Ef w (f_X2_advance k b L σ) := by
  intro k
  induction k with
  | zero => intro b L σ _; exact Ef_no
  | succ k ih =>
    intro b L σ hb
    match b with
    | 0 =>
      refine Ef_eq (by rw [f_X2_advance]) ?_
      exact ih _ _ _ hb
    | 1 =>
      refine Ef_eq (by rw [f_X2_advance]) ?_
      exact Ef_ite (ih _ _ _ hb) (Ef_ite (ih _ _ _ hb) (Ef_ite (Ef_ite (ih _ _ _ hb) (Ef_ite (ih _ _ _ hb) (ih _ _ _ hb))) (Ef_no)))
    | 2 =>
      refine Ef_eq (by rw [f_X2_advance]) ?_
      exact Ef_ite (ih _ _ _ (uI_K7 (by decide) hb)) (ih _ _ _ (uI_K7 (by decide) hb))
    | 3 =>
      refine Ef_eq (by rw [f_X2_advance]) ?_
      exact Ef_ite (Ef_ite (Ef_ite (ih _ _ _ hb) (ih _ _ _ hb)) (Ef_no)) (ih _ _ _ hb)
    | 4 =>
      refine Ef_eq (by rw [f_X2_advance]) ?_
      exact ih _ _ _ hb
    | 5 =>
      refine Ef_eq (by rw [f_X2_advance]) ?_
      exact Ef_ite (Ef_ite (ih _ _ _ hb) (Ef_ite (Ef_ite (ih _ _ _ hb) (ih _ _ _ hb)) (Ef_no))) (ih _ _ _ hb)
    | 6 =>
      refine Ef_eq (by rw [f_X2_advance]) ?_
      exact ih _ _ _ hb
    | 7 =>
      refine Ef_eq (by rw [f_X2_advance]) ?_
      exact Ef_ite (ih _ _ _ (uI_K7 (by decide) hb)) (ih _ _ _ (uI_K7 (by decide) hb))
    | 8 =>
      refine Ef_eq (by rw [f_X2_advance]) ?_
      exact ih _ _ _ hb
    | 9 =>
      refine Ef_eq (by rw [f_X2_advance]) ?_
      exact ih _ _ _ hb
    | 10 =>
      refine Ef_eq (by rw [f_X2_advance]) ?_
      exact ih _ _ _ hb
    | 11 =>
      refine Ef_eq (by rw [f_X2_advance]) ?_
      exact Ef_ite (Ef_ite (ih _ _ _ hb) (ih _ _ _ hb)) (Ef_no)
    | 12 =>
      refine Ef_eq (by rw [f_X2_advance]) ?_
      exact Ef_ite (Ef_ite (ih _ _ _ (uL_K7 (uL_K7 (uI_K7 (by decide) hb)))) (ih _ _ _ (uI_K7 (by decide) hb))) (Ef_no)
    | 13 =>
      refine Ef_eq (by rw [f_X2_advance]) ?_
      exact Ef_ite (ih _ _ _ hb) (ih _ _ _ hb)
    | 14 =>
      refine Ef_eq (by rw [f_X2_advance]) ?_
      exact Ef_ite (Ef_ite (ih _ _ _ hb) (Ef_no)) (Ef_no)
    | 15 =>
      refine Ef_eq (by rw [f_X2_advance]) ?_
      exact Ef_ite (ih _ _ _ hb) (ih _ _ _ hb)
    | 16 =>
      refine Ef_eq (by rw [f_X2_advance]) ?_
      exact ih _ _ _ hb
    | 17 =>
      refine Ef_eq (by rw [f_X2_advance]) ?_
      exact ih _ _ _ hb
    | 18 =>
      refine Ef_eq (by rw [f_X2_advance]) ?_
      exact ih _ _ _ hb
    | 19 =>
      refine Ef_eq (by rw [f_X2_advance]) ?_
      exact Ef_ite (ih _ _ _ hb) (ih _ _ _ hb)
    | 20 =>
      refine Ef_eq (by rw [f_X2_advance]) ?_
      exact Ef_ite (ih _ _ _ hb) (Ef_ite (Ef_ite (ih _ _ _ hb) (Ef_ite (Ef_ite (ih _ _ _ hb) (ih _ _ _ (uI_K7 (by decide) hb))) (Ef_no))) (Ef_no))
    | 21 =>
      refine Ef_eq (by rw [f_X2_advance]) ?_
      exact Ef_ite (ih _ _ _ hb) (Ef_ite (ih _ _ _ hb) (Ef_ite (ih _ _ _ hb) (Ef_ite (ih _ _ _ hb) (ih _ _ _ hb))))
    | 22 =>
      refine Ef_eq (by rw [f_X2_advance]) ?_
      exact Ef_ite (Ef_ite (ih _ _ _ hb) (Ef_ite (ih _ _ _ hb) (Ef_ite (ih _ _ _ hb) (Ef_ite (ih _ _ _ hb) (ih _ _ _ hb))))) (ih _ _ _ hb)
    | 23 =>
      refine Ef_eq (by rw [f_X2_advance]) ?_
      exact Ef_ite (ih _ _ _ hb) (Ef_ite (Ef_ite (ih _ _ _ hb) (Ef_ite (Ef_ite (ih _ _ _ hb) (ih _ _ _ (uI_K7 (by decide) hb))) (Ef_no))) (Ef_no))
    | 24 =>
      refine Ef_eq (by rw [f_X2_advance]) ?_
      exact Ef_ite (ih _ _ _ hb) (ih _ _ _ hb)
    | 25 =>
      refine Ef_eq (by rw [f_X2_advance]) ?_
      exact Ef_ite (ih _ _ _ hb) (ih _ _ _ hb)
    | 26 =>
      refine Ef_eq (by rw [f_X2_advance]) ?_
      exact Ef_ite (ih _ _ _ hb) (Ef_ite (ih _ _ _ hb) (Ef_no))
    | 27 =>
      refine Ef_eq (by rw [f_X2_advance]) ?_
      exact Ef_ite (Ef_ite (ih _ _ _ hb) (ih _ _ _ hb)) (ih _ _ _ hb)
    | 28 =>
      refine Ef_eq (by rw [f_X2_advance]) ?_
      exact Ef_ite (ih _ _ _ hb) (ih _ _ _ hb)
    | 29 =>
      refine Ef_eq (by rw [f_X2_advance]) ?_
      exact Ef_ite (ih _ _ _ hb) (Ef_ite (Ef_ite (Ef_ite (ih _ _ _ hb) (ih _ _ _ hb)) (ih _ _ _ hb)) (Ef_no))
    | 30 =>
      refine Ef_eq (by rw [f_X2_advance]) ?_
      exact ih _ _ _ hb
    | 31 =>
      refine Ef_eq (by rw [f_X2_advance]) ?_
      exact ih _ _ _ (uI_K7 (by decide) hb)
    | 32 =>
      refine Ef_eq (by rw [f_X2_advance]) ?_
      exact ih _ _ _ hb
    | 33 =>
      refine Ef_eq (by rw [f_X2_advance]) ?_
      exact ih _ _ _ (uI_K7 (by decide) hb)
    | 34 =>
      refine Ef_eq (by rw [f_X2_advance]) ?_
      exact ih _ _ _ hb
    | 35 =>
      refine Ef_eq (by rw [f_X2_advance]) ?_
      exact Ef_ite (ih _ _ _ (uL_K7 hb)) (ih _ _ _ (uL_K7 hb))
    | 36 =>
      refine Ef_eq (by rw [f_X2_advance]) ?_
      exact Ef_ite (Ef_ite (ih _ _ _ hb) (ih _ _ _ hb)) (ih _ _ _ hb)
    | 37 =>
      refine Ef_eq (by rw [f_X2_advance]) ?_
      exact Ef_ite (ih _ _ _ hb) (ih _ _ _ hb)
    | 38 =>
      refine Ef_eq (by rw [f_X2_advance]) ?_
      exact Ef_ite (ih _ _ _ hb) (ih _ _ _ hb)
    | 39 =>
      refine Ef_eq (by rw [f_X2_advance]) ?_
      exact ih _ _ _ (uI_K7 (by decide) (uI_K7 (by decide) hb))
    | 40 =>
      refine Ef_eq (by rw [f_X2_advance]) ?_
      exact ih _ _ _ hb
    | 41 =>
      refine Ef_eq (by rw [f_X2_advance]) ?_
      exact ih _ _ _ (uI_K7 (by decide) (uI_K7 (by decide) hb))
    | 42 =>
      refine Ef_eq (by rw [f_X2_advance]) ?_
      exact Ef_ite (ih _ _ _ hb) (Ef_ite (ih _ _ _ hb) (Ef_ite (ih _ _ _ hb) (ih _ _ _ hb)))
    | 43 =>
      refine Ef_eq (by rw [f_X2_advance]) ?_
      exact Ef_ite (ih _ _ _ hb) (Ef_ite (ih _ _ _ hb) (Ef_ite (Ef_ite (ih _ _ _ hb) (ih _ _ _ hb)) (Ef_no)))
    | 44 =>
      refine Ef_eq (by rw [f_X2_advance]) ?_
      exact Ef_ite (ih _ _ _ hb) (Ef_no)
    | 45 =>
      refine Ef_eq (by rw [f_X2_advance]) ?_
      exact Ef_ite (Ef_ite (ih _ _ _ (uI_K7 (by decide) (uL_K7 hb))) (ih _ _ _ (uI_K7 (by decide) (uL_K7 hb)))) (Ef_no)
    | 46 =>
      refine Ef_eq (by rw [f_X2_advance]) ?_
      exact ih _ _ _ hb
    | 47 =>
      refine Ef_eq (by rw [f_X2_advance]) ?_
      exact ih _ _ _ (uI_K7 (by decide) (uI_K7 (by decide) hb))
    | 48 =>
      refine Ef_eq (by rw [f_X2_advance]) ?_
      exact ih _ _ _ hb
    | 49 =>
      refine Ef_eq (by rw [f_X2_advance]) ?_
      exact Ef_so hb
    | 50 =>
      refine Ef_eq (by rw [f_X2_advance]) ?_
      exact Ef_so hb
    | 51 =>
      refine Ef_eq (by rw [f_X2_advance]) ?_
      exact ih _ _ _ hb
    | 52 =>
      refine Ef_eq (by rw [f_X2_advance]) ?_
      exact ih _ _ _ hb
    | 53 =>
      refine Ef_eq (by rw [f_X2_advance]) ?_
      exact ih _ _ _ (uI_K7 (by decide) hb)
    | 54 =>
      refine Ef_eq (by rw [f_X2_advance]) ?_
      exact Ef_ite (Ef_ite (ih _ _ _ hb) (Ef_no)) (Ef_no)
    | 55 =>
      refine Ef_eq (by rw [f_X2_advance]) ?_
      exact ih _ _ _ hb
    | b + 56 =>
      exact Ef_eq (by rw [f_X2_advance]) Ef_no
theorem k7_f_X5_refuse : ∀ (k b : Nat) (L : LV) (σ : CS), K7 w σ → Ef w (f_X5_refuse k b L σ) := by
  intro k
  induction k with
  | zero => intro b L σ _; exact Ef_no
  | succ k ih =>
    intro b L σ hb
    match b with
    | 0 =>
      refine Ef_eq (by rw [f_X5_refuse]) ?_
      exact Ef_so (uI_K7 (by decide) (uI_K7 (by decide) hb))
    | b + 1 =>
      exact Ef_eq (by rw [f_X5_refuse]) Ef_no
theorem k7_f_X5_expect : ∀ (k b : Nat) (L : LV) (σ : CS), K7 w σ → Ef w (f_X5_expect k b L σ) := by
  intro k
  induction k with
  | zero => intro b L σ _; exact Ef_no
  | succ k ih =>
    intro b L σ hb
    match b with
    | 0 =>
      refine Ef_eq (by rw [f_X5_expect]) ?_
      exact Ef_ite (ih _ _ _ hb) (Ef_ox (k7_f_X5_refuse _ _ _ _ hb) (fun _ h799 => ih _ _ _ h799))
    | 1 =>
      refine Ef_eq (by rw [f_X5_expect]) ?_
      exact Ef_ox (k7_f_X2_advance _ _ _ _ hb) (fun _ h800 => Ef_so h800)
    | b + 2 =>
      exact Ef_eq (by rw [f_X5_expect]) Ef_no
theorem k7_f_X5_want : ∀ (k b : Nat) (L : LV) (σ : CS), K7 w σ → Ef w (f_X5_want k b L σ) := by
  intro k
  induction k with
  | zero => intro b L σ _; exact Ef_no
  | succ k ih =>
    intro b L σ hb
    match b with
    | 0 =>
      refine Ef_eq (by rw [f_X5_want]) ?_
      exact Ef_ite (ih _ _ _ hb) (Ef_ox (k7_f_X5_refuse _ _ _ _ hb) (fun _ h801 => ih _ _ _ h801))
    | 1 =>
      refine Ef_eq (by rw [f_X5_want]) ?_
      exact Ef_so hb
    | b + 2 =>
      exact Ef_eq (by rw [f_X5_want]) Ef_no
theorem k7_f_X5_opens : ∀ (k b : Nat) (L : LV) (σ : CS), K7 w σ → Ef w (f_X5_opens k b L σ) := by
  intro k
  induction k with
  | zero => intro b L σ _; exact Ef_no
  | succ k ih =>
    intro b L σ hb
    match b with
    | 0 =>
      refine Ef_eq (by rw [f_X5_opens]) ?_
      exact Ef_ite (ih _ _ _ hb) (Ef_ox (k7_f_X5_refuse _ _ _ _ hb) (fun _ h802 => ih _ _ _ h802))
    | 1 =>
      refine Ef_eq (by rw [f_X5_opens]) ?_
      exact Ef_ox (k7_f_X2_advance _ _ _ _ (uI_K7 (by decide) hb)) (fun _ h803 => Ef_so h803)
    | b + 2 =>
      exact Ef_eq (by rw [f_X5_opens]) Ef_no
theorem k7_f_X5_closes : ∀ (k b : Nat) (L : LV) (σ : CS), K7 w σ → Ef w (f_X5_closes k b L σ) := by
  intro k
  induction k with
  | zero => intro b L σ _; exact Ef_no
  | succ k ih =>
    intro b L σ hb
    match b with
    | 0 =>
      refine Ef_eq (by rw [f_X5_closes]) ?_
      exact Ef_ite (ih _ _ _ hb) (Ef_ox (k7_f_X5_refuse _ _ _ _ hb) (fun _ h804 => ih _ _ _ h804))
    | 1 =>
      refine Ef_eq (by rw [f_X5_closes]) ?_
      exact Ef_ox (k7_f_X2_advance _ _ _ _ (uI_K7 (by decide) hb)) (fun _ h805 => Ef_so h805)
    | b + 2 =>
      exact Ef_eq (by rw [f_X5_closes]) Ef_no
theorem k7_f_X5_widenMarks : ∀ (k b : Nat) (L : LV) (σ : CS), K7 w σ → Ef w (f_X5_widenMarks k b L σ) := by
  intro k
  induction k with
  | zero => intro b L σ _; exact Ef_no
  | succ k ih =>
    intro b L σ hb
    match b with
    | 0 =>
      refine Ef_eq (by rw [f_X5_widenMarks]) ?_
      exact Ef_ite (ih _ _ _ hb) (Ef_ite (ih _ _ _ hb) (Ef_ite (Ef_ite (Ef_ad (ih _ _ _ (uZ_K7 (by decide) hb))) (Ef_no)) (Ef_no)))
    | 1 =>
      refine Ef_eq (by rw [f_X5_widenMarks]) ?_
      exact Ef_ite (ih _ _ _ hb) (Ef_so hb)
    | 2 =>
      refine Ef_eq (by rw [f_X5_widenMarks]) ?_
      exact Ef_so hb
    | b + 3 =>
      exact Ef_eq (by rw [f_X5_widenMarks]) Ef_no
theorem k7_f_X5_postpone : ∀ (k b : Nat) (L : LV) (σ : CS), K7 w σ → Ef w (f_X5_postpone k b L σ) := by
  intro k
  induction k with
  | zero => intro b L σ _; exact Ef_no
  | succ k ih =>
    intro b L σ hb
    match b with
    | 0 =>
      refine Ef_eq (by rw [f_X5_postpone]) ?_
      exact Ef_ox (k7_f_X5_widenMarks _ _ _ _ hb) (fun _ h806 => Ef_ite (Ef_ite (Ef_ite (ih _ _ _ (uA_K7 (by decide) (uA_K7 (by decide) (uA_K7 (by decide) h806)))) (Ef_no)) (Ef_no)) (Ef_no))
    | 1 =>
      refine Ef_eq (by rw [f_X5_postpone]) ?_
      exact Ef_so (uI_K7 (by decide) hb)
    | b + 2 =>
      exact Ef_eq (by rw [f_X5_postpone]) Ef_no
theorem k7_f_X5_prefix : ∀ (k b : Nat) (L : LV) (σ : CS), K7 w σ → Ef w (f_X5_prefix k b L σ) := by
  intro k
  induction k with
  | zero => intro b L σ _; exact Ef_no
  | succ k ih =>
    intro b L σ hb
    match b with
    | 0 =>
      refine Ef_eq (by rw [f_X5_prefix]) ?_
      exact Ef_ite (Ef_ite (ih _ _ _ hb) (ih _ _ _ hb)) (ih _ _ _ hb)
    | 1 =>
      refine Ef_eq (by rw [f_X5_prefix]) ?_
      exact ih _ _ _ hb
    | 2 =>
      refine Ef_eq (by rw [f_X5_prefix]) ?_
      exact Ef_op (k7_y_X5_postponedLevel _ _ _ _ hb) (fun _ h807 => ih _ _ _ h807)
    | 3 =>
      refine Ef_eq (by rw [f_X5_prefix]) ?_
      exact Ef_ite (ih _ _ _ hb) (ih _ _ _ hb)
    | 4 =>
      refine Ef_eq (by rw [f_X5_prefix]) ?_
      exact Ef_ite (ih _ _ _ hb) (ih _ _ _ hb)
    | 5 =>
      refine Ef_eq (by rw [f_X5_prefix]) ?_
      exact Ef_ite (ih _ _ _ hb) (ih _ _ _ hb)
    | 6 =>
      refine Ef_eq (by rw [f_X5_prefix]) ?_
      exact Ef_ite (Ef_ite (Ef_ite (ih _ _ _ hb) (Ef_ite (ih _ _ _ hb) (Ef_so hb))) (ih _ _ _ hb)) (ih _ _ _ hb)
    | 7 =>
      refine Ef_eq (by rw [f_X5_prefix]) ?_
      exact Ef_ite (ih _ _ _ hb) (ih _ _ _ hb)
    | 8 =>
      refine Ef_eq (by rw [f_X5_prefix]) ?_
      exact Ef_ite (ih _ _ _ hb) (Ef_ox (k7_f_X5_refuse _ _ _ _ hb) (fun _ h808 => ih _ _ _ h808))
    | 9 =>
      refine Ef_eq (by rw [f_X5_prefix]) ?_
      exact Ef_ite (ih _ _ _ hb) (ih _ _ _ hb)
    | 10 =>
      refine Ef_eq (by rw [f_X5_prefix]) ?_
      exact Ef_ox (k7_f_X2_advance _ _ _ _ (uI_K7 (by decide) hb)) (fun _ h809 => Ef_ite (ih _ _ _ h809) (Ef_ox (k7_f_X5_postpone _ _ _ _ h809) (fun _ h810 => ih _ _ _ h810)))
    | 11 =>
      refine Ef_eq (by rw [f_X5_prefix]) ?_
      exact ih _ _ _ hb
    | 12 =>
      refine Ef_eq (by rw [f_X5_prefix]) ?_
      exact Ef_ite (Ef_ite (ih _ _ _ hb) (ih _ _ _ hb)) (ih _ _ _ hb)
    | 13 =>
      refine Ef_eq (by rw [f_X5_prefix]) ?_
      exact Ef_so hb
    | 14 =>
      refine Ef_eq (by rw [f_X5_prefix]) ?_
      exact Ef_ox (k7_f_X5_expect _ _ _ _ hb) (fun _ h811 => Ef_ox (k7_f_X5_postpone _ _ _ _ h811) (fun _ h812 => ih _ _ _ h812))
    | 15 =>
      refine Ef_eq (by rw [f_X5_prefix]) ?_
      exact ih _ _ _ hb
    | 16 =>
      refine Ef_eq (by rw [f_X5_prefix]) ?_
      exact Ef_ox (k7_f_X5_postpone _ _ _ _ hb) (fun _ h813 => ih _ _ _ h813)
    | b + 17 =>
      exact Ef_eq (by rw [f_X5_prefix]) Ef_no
theorem k7_f_X5_takenName : ∀ (k b : Nat) (L : LV) (σ : CS), K7 w σ → Ef w (f_X5_takenName k b L σ) := by
  intro k
  induction k with
  | zero => intro b L σ _; exact Ef_no
  | succ k ih =>
    intro b L σ hb
    match b with
    | 0 =>
      refine Ef_eq (by rw [f_X5_takenName]) ?_
      exact Ef_ox (k7_f_X2_advance _ _ _ _ hb) (fun _ h814 => Ef_oP (fun _ => Ef_op (k7_y_X7_found__P _ _ _ _ h814) (fun _ h815 => Ef_so h815)))
    | b + 1 =>
      exact Ef_eq (by rw [f_X5_takenName]) Ef_no
theorem k7_f_X7_widen__P : ∀ (k b : Nat) (L : LV) (σ : CS), K7 w σ → Ef w (f_X7_widen__P k b L σ) := by
  intro k
  induction k with
  | zero => intro b L σ _; exact Ef_no
  | succ k ih =>
    intro b L σ hb
    match b with
    | 0 =>
      refine Ef_eq (by rw [f_X7_widen__P]) ?_
      exact Ef_ite (ih _ _ _ hb) (Ef_ite (ih _ _ _ hb) (Ef_ite (Ef_ite (Ef_ad (ih _ _ _ (uC_K7 hb))) (Ef_no)) (Ef_no)))
    | 1 =>
      refine Ef_eq (by rw [f_X7_widen__P]) ?_
      exact Ef_ite (ih _ _ _ hb) (Ef_so hb)
    | 2 =>
      refine Ef_eq (by rw [f_X7_widen__P]) ?_
      exact Ef_so hb
    | b + 3 =>
      exact Ef_eq (by rw [f_X7_widen__P]) Ef_no
theorem k7_f_X7_emit__P : ∀ (k b : Nat) (L : LV) (σ : CS), K7 w σ → Ef w (f_X7_emit__P k b L σ) := by
  intro k
  induction k with
  | zero => intro b L σ _; exact Ef_no
  | succ k ih =>
    intro b L σ hb
    match b with
    | 0 =>
      refine Ef_eq (by rw [f_X7_emit__P]) ?_
      exact Ef_ox (k7_f_X7_widen__P _ _ _ _ hb) (fun _ h816 => Ef_ite (Ef_so (uI_K7 (fP_7 _ (by decide) (by decide) (by decide)) (uA_K7 (n7_0 _) h816))) (Ef_no))
    | b + 1 =>
      exact Ef_eq (by rw [f_X7_emit__P]) Ef_no
theorem k7_f_X7_word__P : ∀ (k b : Nat) (L : LV) (σ : CS), K7 w σ → Ef w (f_X7_word__P k b L σ) := by
  intro k
  induction k with
  | zero => intro b L σ _; exact Ef_no
  | succ k ih =>
    intro b L σ hb
    match b with
    | 0 =>
      refine Ef_eq (by rw [f_X7_word__P]) ?_
      exact Ef_ox (k7_f_X7_widen__P _ _ _ _ hb) (fun _ h817 => Ef_ite (Ef_so (uI_K7 (fP_7 _ (by decide) (by decide) (by decide)) (uA_K7 (n7_0 _) h817))) (Ef_no))
    | b + 1 =>
      exact Ef_eq (by rw [f_X7_word__P]) Ef_no
theorem k7_y_X10_readDigits__z38 : ∀ (k b : Nat) (L : LV) (σ : CS), K7 w σ → Ey w (y_X10_readDigits__z38 k b L σ) := by
  intro k
  induction k with
  | zero => intro b L σ _; exact Ey_no
  | succ k ih =>
    intro b L σ hb
    match b with
    | 0 =>
      refine Ey_eq (by rw [y_X10_readDigits__z38]) ?_
      exact ih _ _ _ hb
    | 1 =>
      refine Ey_eq (by rw [y_X10_readDigits__z38]) ?_
      exact Ey_ite (ih _ _ _ hb) (Ey_ite (ih _ _ _ hb) (Ey_no))
    | 2 =>
      refine Ey_eq (by rw [y_X10_readDigits__z38]) ?_
      exact Ey_so (uI_K7 (by decide) hb)
    | 3 =>
      refine Ey_eq (by rw [y_X10_readDigits__z38]) ?_
      exact Ey_ite (ih _ _ _ hb) (Ey_ite (Ey_ite (ih _ _ _ (uA_K7 (by decide) hb)) (Ey_no)) (Ey_no))
    | 4 =>
      refine Ey_eq (by rw [y_X10_readDigits__z38]) ?_
      exact Ey_ite (ih _ _ _ hb) (Ey_ite (ih _ _ _ hb) (Ey_ite (ih _ _ _ (uA_K7 (by decide) hb)) (Ey_no)))
    | 5 =>
      refine Ey_eq (by rw [y_X10_readDigits__z38]) ?_
      exact ih _ _ _ hb
    | b + 6 =>
      exact Ey_eq (by rw [y_X10_readDigits__z38]) Ey_no
theorem k7_f_X5_number : ∀ (k b : Nat) (L : LV) (σ : CS), K7 w σ → Ef w (f_X5_number k b L σ) := by
  intro k
  induction k with
  | zero => intro b L σ _; exact Ef_no
  | succ k ih =>
    intro b L σ hb
    match b with
    | 0 =>
      refine Ef_eq (by rw [f_X5_number]) ?_
      exact Ef_op (k7_y_X10_readDigits__z38 _ _ _ _ hb) (fun _ h818 => Ef_op (k7_y_X10_resultLimb _ _ _ _ h818) (fun _ h819 => Ef_ite (ih _ _ _ h819) (Ef_ite (Ef_ite (ih _ _ _ h819) (Ef_ite (ih _ _ _ h819) (ih _ _ _ h819))) (ih _ _ _ h819))))
    | 1 =>
      refine Ef_eq (by rw [f_X5_number]) ?_
      exact Ef_oP (fun _ => Ef_ox (k7_f_X7_emit__P _ _ _ _ hb) (fun _ h820 => Ef_oP (fun _ => Ef_op (k7_y_X10_small _ _ _ _ h820) (fun _ h821 => Ef_ox (k7_f_X7_word__P _ _ _ _ h821) (fun _ h822 => ih _ _ _ h822)))))
    | 2 =>
      refine Ef_eq (by rw [f_X5_number]) ?_
      exact Ef_oP (fun _ => Ef_ox (k7_f_X7_emit__P _ _ _ _ hb) (fun _ h823 => Ef_oP (fun _ => Ef_op (k7_y_X1_header _ _ _ _ h823) (fun _ h824 => Ef_ox (k7_f_X7_word__P _ _ _ _ h824) (fun _ h825 => ih _ _ _ h825)))))
    | 3 =>
      refine Ef_eq (by rw [f_X5_number]) ?_
      exact Ef_ox (k7_f_X2_advance _ _ _ _ hb) (fun _ h826 => Ef_so h826)
    | 4 =>
      refine Ef_eq (by rw [f_X5_number]) ?_
      exact Ef_ite (ih _ _ _ hb) (Ef_oP (fun _ => Ef_op (k7_y_X10_resultLimb _ _ _ _ hb) (fun _ h827 => Ef_ox (k7_f_X7_word__P _ _ _ _ h827) (fun _ h828 => ih _ _ _ h828))))
    | b + 5 =>
      exact Ef_eq (by rw [f_X5_number]) Ef_no
theorem k7_f_X5_string : ∀ (k b : Nat) (L : LV) (σ : CS), K7 w σ → Ef w (f_X5_string k b L σ) := by
  intro k
  induction k with
  | zero => intro b L σ _; exact Ef_no
  | succ k ih =>
    intro b L σ hb
    match b with
    | 0 =>
      refine Ef_eq (by rw [f_X5_string]) ?_
      exact Ef_ite (ih _ _ _ hb) (Ef_oP (fun _ => Ef_ox (k7_f_X7_emit__P _ _ _ _ hb) (fun _ h829 => Ef_oP (fun _ => Ef_ite (ih _ _ _ h829) (ih _ _ _ h829)))))
    | 1 =>
      refine Ef_eq (by rw [f_X5_string]) ?_
      exact Ef_oP (fun _ => Ef_ox (k7_f_X7_emit__P _ _ _ _ hb) (fun _ h830 => Ef_oP (fun _ => Ef_op (k7_y_X1_header _ _ _ _ h830) (fun _ h831 => Ef_ox (k7_f_X7_word__P _ _ _ _ h831) (fun _ h832 => ih _ _ _ h832)))))
    | 2 =>
      refine Ef_eq (by rw [f_X5_string]) ?_
      exact Ef_ite (ih _ _ _ hb) (Ef_no)
    | 3 =>
      refine Ef_eq (by rw [f_X5_string]) ?_
      exact Ef_ox (k7_f_X7_word__P _ _ _ _ hb) (fun _ h833 => ih _ _ _ h833)
    | 4 =>
      refine Ef_eq (by rw [f_X5_string]) ?_
      exact Ef_ite (ih _ _ _ hb) (Ef_oP (fun _ => Ef_ox (k7_f_X7_word__P _ _ _ _ hb) (fun _ h834 => ih _ _ _ h834)))
    | 5 =>
      refine Ef_eq (by rw [f_X5_string]) ?_
      exact Ef_ox (k7_f_X2_advance _ _ _ _ hb) (fun _ h835 => Ef_so h835)
    | 6 =>
      refine Ef_eq (by rw [f_X5_string]) ?_
      exact ih _ _ _ hb
    | 7 =>
      refine Ef_eq (by rw [f_X5_string]) ?_
      exact Ef_ite (ih _ _ _ hb) (Ef_oP (fun _ => Ef_ite (Ef_ite (Ef_ite (ih _ _ _ (uA_K7 (n7_0 _) hb)) (Ef_no)) (Ef_no)) (Ef_no)))
    | b + 8 =>
      exact Ef_eq (by rw [f_X5_string]) Ef_no
theorem k7_f_X5_push : ∀ (k b : Nat) (L : LV) (σ : CS), K7 w σ → Ef w (f_X5_push k b L σ) := by
  intro k
  induction k with
  | zero => intro b L σ _; exact Ef_no
  | succ k ih =>
    intro b L σ hb
    match b with
    | 0 =>
      refine Ef_eq (by rw [f_X5_push]) ?_
      exact Ef_oP (fun _ => Ef_ox (k7_f_X7_emit__P _ _ _ _ hb) (fun _ h836 => Ef_oP (fun _ => Ef_ox (k7_f_X7_word__P _ _ _ _ h836) (fun _ h837 => Ef_so h837))))
    | b + 1 =>
      exact Ef_eq (by rw [f_X5_push]) Ef_no
theorem k7_f_X5_iterStore : ∀ (k b : Nat) (L : LV) (σ : CS), K7 w σ → Ef w (f_X5_iterStore k b L σ) := by
  intro k
  induction k with
  | zero => intro b L σ _; exact Ef_no
  | succ k ih =>
    intro b L σ hb
    match b with
    | 0 =>
      refine Ef_eq (by rw [f_X5_iterStore]) ?_
      exact Ef_ite (Ef_oP (fun _ => Ef_ite (ih _ _ _ hb) (ih _ _ _ hb))) (ih _ _ _ hb)
    | 1 =>
      refine Ef_eq (by rw [f_X5_iterStore]) ?_
      exact Ef_oP (fun _ => Ef_ite (ih _ _ _ hb) (ih _ _ _ hb))
    | 2 =>
      refine Ef_eq (by rw [f_X5_iterStore]) ?_
      exact ih _ _ _ hb
    | 3 =>
      refine Ef_eq (by rw [f_X5_iterStore]) ?_
      exact Ef_ox (k7_f_X7_emit__P _ _ _ _ hb) (fun _ h838 => ih _ _ _ h838)
    | 4 =>
      refine Ef_eq (by rw [f_X5_iterStore]) ?_
      exact ih _ _ _ hb
    | 5 =>
      refine Ef_eq (by rw [f_X5_iterStore]) ?_
      exact Ef_ox (k7_f_X7_emit__P _ _ _ _ hb) (fun _ h839 => Ef_oP (fun _ => Ef_ox (k7_f_X7_word__P _ _ _ _ h839) (fun _ h840 => ih _ _ _ h840)))
    | 6 =>
      refine Ef_eq (by rw [f_X5_iterStore]) ?_
      exact Ef_so hb
    | b + 7 =>
      exact Ef_eq (by rw [f_X5_iterStore]) Ef_no
theorem k7_f_X5_mark : ∀ (k b : Nat) (L : LV) (σ : CS), K7 w σ → Ef w (f_X5_mark k b L σ) := by
  intro k
  induction k with
  | zero => intro b L σ _; exact Ef_no
  | succ k ih =>
    intro b L σ hb
    match b with
    | 0 =>
      refine Ef_eq (by rw [f_X5_mark]) ?_
      exact Ef_ox (k7_f_X5_widenMarks _ _ _ _ hb) (fun _ h841 => Ef_ite (Ef_so (uI_K7 (by decide) (uA_K7 (by decide) h841))) (Ef_no))
    | b + 1 =>
      exact Ef_eq (by rw [f_X5_mark]) Ef_no
theorem k7_f_X5_clear : ∀ (k b : Nat) (L : LV) (σ : CS), K7 w σ → Ef w (f_X5_clear k b L σ) := by
  intro k
  induction k with
  | zero => intro b L σ _; exact Ef_no
  | succ k ih =>
    intro b L σ hb
    match b with
    | 0 =>
      refine Ef_eq (by rw [f_X5_clear]) ?_
      exact Ef_oP (fun _ => Ef_ox (k7_f_X7_emit__P _ _ _ _ hb) (fun _ h842 => Ef_oP (fun _ => Ef_oP (fun _ => Ef_ox (k7_f_X7_word__P _ _ _ _ h842) (fun _ h843 => Ef_oP (fun _ => Ef_so (uI_K7 (fP_7 _ (by decide) (by decide) (by decide)) h843)))))))
    | b + 1 =>
      exact Ef_eq (by rw [f_X5_clear]) Ef_no
theorem k7_f_X5_settle : ∀ (k b : Nat) (L : LV) (σ : CS), K7 w σ → Ef w (f_X5_settle k b L σ) := by
  intro k
  induction k with
  | zero => intro b L σ _; exact Ef_no
  | succ k ih =>
    intro b L σ hb
    match b with
    | 0 =>
      refine Ef_eq (by rw [f_X5_settle]) ?_
      exact ih _ _ _ hb
    | 1 =>
      refine Ef_eq (by rw [f_X5_settle]) ?_
      exact Ef_ite (ih _ _ _ hb) (Ef_ite (ih _ _ _ hb) (Ef_ite (Ef_ite (ih _ _ _ hb) (Ef_ite (Ef_ite (Ef_oP (fun _ => Ef_ite (Ef_ox (k7_f_X7_emit__P _ _ _ _ (uI_K7 (by decide) hb)) (fun _ h844 => Ef_ite (ih _ _ _ h844) (Ef_oP (fun _ => Ef_oP (fun _ => Ef_op (k7_y_X7_aim__P _ _ _ _ h844) (fun _ h845 => ih _ _ _ h845)))))) (Ef_no))) (Ef_no)) (Ef_no))) (Ef_no)))
    | 2 =>
      refine Ef_eq (by rw [f_X5_settle]) ?_
      exact Ef_so hb
    | 3 =>
      refine Ef_eq (by rw [f_X5_settle]) ?_
      exact Ef_ite (ih _ _ _ hb) (Ef_ite (ih _ _ _ hb) (ih _ _ _ hb))
    | 4 =>
      refine Ef_eq (by rw [f_X5_settle]) ?_
      exact Ef_ite (Ef_ite (Ef_oP (fun _ => Ef_ox (k7_f_X7_emit__P _ _ _ _ hb) (fun _ h846 => ih _ _ _ h846))) (ih _ _ _ hb)) (Ef_no)
    | 5 =>
      refine Ef_eq (by rw [f_X5_settle]) ?_
      exact ih _ _ _ (uI_K7 (by decide) hb)
    | 6 =>
      refine Ef_eq (by rw [f_X5_settle]) ?_
      exact ih _ _ _ hb
    | b + 7 =>
      exact Ef_eq (by rw [f_X5_settle]) Ef_no
theorem k7_t_X5_choice {X : Nat → Nat → Nat → LV → CS → Option RS} (hX : ∀ e m b L (σ : CS), K7 w σ → Ef w (X e m b L σ)) (K d b : Nat) (L : LV) (σ : CS) (hb : K7 w σ) : Ef w (t_X5_choice X K d b L σ) := by
  match b with
  | 0 => exact Ef_ox (k7_f_X5_opens _ _ _ _ hb) (fun _ h847 => Ef_of (fun _ => Ef_ox (hX _ _ _ _ _ h847) (fun _ h848 => Ef_ox (k7_f_X5_expect _ _ _ _ h848) (fun _ h849 => Ef_oP (fun _ => Ef_ox (k7_f_X7_emit__P _ _ _ _ h849) (fun _ h850 => Ef_of (fun _ => Ef_ox (hX _ _ _ _ _ h850) (fun _ h851 => Ef_oP (fun _ => Ef_ox (k7_f_X7_emit__P _ _ _ _ h851) (fun _ h852 => Ef_oP (fun _ => Ef_oP (fun _ => Ef_op (k7_y_X7_aim__P _ _ _ _ h852) (fun _ h853 => hX _ _ _ _ _ h853)))))))))))))
  | 1 => exact Ef_ite (hX _ _ _ _ _ hb) (Ef_ite (Ef_ox (k7_f_X2_advance _ _ _ _ hb) (fun _ h854 => Ef_of (fun _ => Ef_ox (hX _ _ _ _ _ h854) (fun _ h855 => Ef_ox (k7_f_X5_expect _ _ _ _ h855) (fun _ h856 => Ef_oP (fun _ => Ef_ox (k7_f_X7_emit__P _ _ _ _ h856) (fun _ h857 => Ef_of (fun _ => Ef_ox (hX _ _ _ _ _ h857) (fun _ h858 => Ef_oP (fun _ => Ef_ox (k7_f_X7_emit__P _ _ _ _ h858) (fun _ h859 => Ef_oP (fun _ => Ef_oP (fun _ => Ef_op (k7_y_X7_aim__P _ _ _ _ h859) (fun _ h860 => hX _ _ _ _ _ h860)))))))))))))) (hX _ _ _ _ _ hb))
  | 2 => exact Ef_ox (k7_f_X5_expect _ _ _ _ hb) (fun _ h861 => Ef_of (fun _ => Ef_ox (hX _ _ _ _ _ h861) (fun _ h862 => Ef_ox (k7_f_X5_closes _ _ _ _ h862) (fun _ h863 => Ef_op (k7_y_X5_aimAll _ _ _ _ h863) (fun _ h864 => Ef_so h864)))))
  | b + 3 => exact Ef_no
theorem k7_t_X5_exp {X : Nat → Nat → Nat → LV → CS → Option RS} (hX : ∀ e m b L (σ : CS), K7 w σ → Ef w (X e m b L σ)) (K d b : Nat) (L : LV) (σ : CS) (hb : K7 w σ) : Ef w (t_X5_exp X K d b L σ) := by
  match b with
  | 0 => exact hX _ _ _ _ _ hb
  | 1 => exact Ef_ite (hX _ _ _ _ _ hb) (Ef_ite (hX _ _ _ _ _ hb) (hX _ _ _ _ _ hb))
  | 2 => exact Ef_ox (k7_f_X5_settle _ _ _ _ hb) (fun _ h865 => Ef_so h865)
  | 3 => exact Ef_ite (hX _ _ _ _ _ hb) (Ef_ite (hX _ _ _ _ _ hb) (Ef_ox (k7_f_X5_prefix _ _ _ _ hb) (fun _ h866 => hX _ _ _ _ _ h866)))
  | 4 => exact Ef_of (fun _ => Ef_ox (hX _ _ _ _ _ hb) (fun _ h867 => Ef_op (k7_y_X5_level _ _ _ _ h867) (fun _ h868 => Ef_ite (hX _ _ _ _ _ h868) (hX _ _ _ _ _ h868))))
  | 5 => exact hX _ _ _ _ _ hb
  | 6 => exact Ef_ite (hX _ _ _ _ _ hb) (Ef_ite (hX _ _ _ _ _ hb) (Ef_ite (hX _ _ _ _ _ hb) (hX _ _ _ _ _ hb)))
  | 7 => exact Ef_ite (hX _ _ _ _ _ hb) (Ef_ite (Ef_ox (k7_f_X5_opens _ _ _ _ hb) (fun _ h869 => hX _ _ _ _ _ h869)) (hX _ _ _ _ _ hb))
  | 8 => exact hX _ _ _ _ _ hb
  | 9 => exact hX _ _ _ _ _ hb
  | 10 => exact Ef_ite (hX _ _ _ _ _ hb) (Ef_ox (k7_f_X2_advance _ _ _ _ hb) (fun _ h870 => hX _ _ _ _ _ h870))
  | 11 => exact Ef_ite (hX _ _ _ _ _ hb) (Ef_ite (hX _ _ _ _ _ hb) (Ef_oP (fun _ => Ef_ite (hX _ _ _ _ _ hb) (hX _ _ _ _ _ hb))))
  | 12 => exact Ef_ite (hX _ _ _ _ _ hb) (hX _ _ _ _ _ hb)
  | 13 => exact Ef_ite (hX _ _ _ _ _ hb) (Ef_op (k7_y_X5_binaryOp _ _ _ _ hb) (fun _ h871 => Ef_ox (k7_f_X5_postpone _ _ _ _ h871) (fun _ h872 => hX _ _ _ _ _ h872)))
  | 14 => exact hX _ _ _ _ _ hb
  | 15 => exact Ef_ox (k7_f_X7_emit__P _ _ _ _ hb) (fun _ h873 => Ef_ox (k7_f_X5_postpone _ _ _ _ h873) (fun _ h874 => hX _ _ _ _ _ h874))
  | 16 => exact hX _ _ _ _ _ hb
  | 17 => exact Ef_ox (k7_f_X5_settle _ _ _ _ hb) (fun _ h875 => Ef_ite (Ef_op (k7_y_X5_postponedLevel _ _ _ _ h875) (fun _ h876 => Ef_ite (hX _ _ _ _ _ h876) (hX _ _ _ _ _ h876))) (hX _ _ _ _ _ h875))
  | 18 => exact hX _ _ _ _ _ hb
  | 19 => exact hX _ _ _ _ _ hb
  | 20 => exact hX _ _ _ _ _ hb
  | 21 => exact hX _ _ _ _ _ hb
  | b + 22 => exact Ef_no
theorem k7_t_X5_exps {X : Nat → Nat → Nat → LV → CS → Option RS} (hX : ∀ e m b L (σ : CS), K7 w σ → Ef w (X e m b L σ)) (K d b : Nat) (L : LV) (σ : CS) (hb : K7 w σ) : Ef w (t_X5_exps X K d b L σ) := by
  match b with
  | 0 => exact Ef_of (fun _ => Ef_ox (hX _ _ _ _ _ hb) (fun _ h877 => hX _ _ _ _ _ h877))
  | 1 => exact Ef_ite (hX _ _ _ _ _ hb) (Ef_ite (Ef_ox (k7_f_X2_advance _ _ _ _ hb) (fun _ h878 => Ef_of (fun _ => Ef_ox (hX _ _ _ _ _ h878) (fun _ h879 => hX _ _ _ _ _ h879)))) (hX _ _ _ _ _ hb))
  | 2 => exact Ef_so hb
  | b + 3 => exact Ef_no
theorem k7_t_X5_former {X : Nat → Nat → Nat → LV → CS → Option RS} (hX : ∀ e m b L (σ : CS), K7 w σ → Ef w (X e m b L σ)) (K d b : Nat) (L : LV) (σ : CS) (hb : K7 w σ) : Ef w (t_X5_former X K d b L σ) := by
  match b with
  | 0 => exact Ef_ox (k7_f_X2_advance _ _ _ _ hb) (fun _ h880 => Ef_oP (fun _ => Ef_oP (fun _ => Ef_oP (fun _ => Ef_ox (k7_f_X7_emit__P _ _ _ _ h880) (fun _ h881 => Ef_of (fun _ => Ef_ox (hX _ _ _ _ _ h881) (fun _ h882 => Ef_ite (Ef_ox (k7_f_X2_advance _ _ _ _ h882) (fun _ h883 => Ef_of (fun _ => Ef_ox (hX _ _ _ _ _ h883) (fun _ h884 => Ef_oP (fun _ => Ef_oP (fun _ => Ef_ox (k7_f_X7_emit__P _ _ _ _ h884) (fun _ h885 => Ef_op (k7_y_X7_aim__P _ _ _ _ h885) (fun _ h886 => hX _ _ _ _ _ h886)))))))) (hX _ _ _ _ _ h882))))))))
  | 1 => exact Ef_ox (k7_f_X5_expect _ _ _ _ hb) (fun _ h887 => Ef_of (fun _ => Ef_ox (hX _ _ _ _ _ h887) (fun _ h888 => Ef_oP (fun _ => Ef_ox (k7_f_X7_emit__P _ _ _ _ h888) (fun _ h889 => Ef_oP (fun _ => Ef_oP (fun _ => Ef_ox (k7_f_X7_emit__P _ _ _ _ h889) (fun _ h890 => Ef_op (k7_y_X7_aim__P _ _ _ _ h890) (fun _ h891 => Ef_oP (fun _ => Ef_oP (fun _ => Ef_ite (Ef_ox (k7_f_X5_clear _ _ _ _ (uA_K7 (n7_0 _) h891)) (fun _ h892 => Ef_oP (fun _ => Ef_ox (k7_f_X7_emit__P _ _ _ _ h892) (fun _ h893 => Ef_oP (fun _ => Ef_so (uI_K7 (fP_7 _ (by decide) (by decide) (by decide)) h893)))))) (Ef_no))))))))))))
  | b + 2 => exact Ef_no
theorem k7_t_X5_functionCall {X : Nat → Nat → Nat → LV → CS → Option RS} (hX : ∀ e m b L (σ : CS), K7 w σ → Ef w (X e m b L σ)) (K d b : Nat) (L : LV) (σ : CS) (hb : K7 w σ) : Ef w (t_X5_functionCall X K d b L σ) := by
  match b with
  | 0 => exact Ef_oP (fun _ => Ef_ox (k7_f_X7_emit__P _ _ _ _ hb) (fun _ h894 => Ef_ox (k7_f_X5_opens _ _ _ _ h894) (fun _ h895 => Ef_ite (hX _ _ _ _ _ h895) (hX _ _ _ _ _ h895))))
  | 1 => exact Ef_of (fun _ => Ef_ox (hX _ _ _ _ _ hb) (fun _ h896 => hX _ _ _ _ _ h896))
  | 2 => exact Ef_ox (k7_f_X5_want _ _ _ _ hb) (fun _ h897 => Ef_oP (fun _ => Ef_ite (Ef_ite (hX _ _ _ _ _ h897) (Ef_ox (k7_f_X5_refuse _ _ _ _ h897) (fun _ h898 => hX _ _ _ _ _ h898))) (Ef_no)))
  | 3 => exact Ef_ox (k7_f_X5_closes _ _ _ _ hb) (fun _ h899 => Ef_oP (fun _ => Ef_ox (k7_f_X7_emit__P _ _ _ _ h899) (fun _ h900 => Ef_oP (fun _ => Ef_oP (fun _ => Ef_ox (k7_f_X7_word__P _ _ _ _ h900) (fun _ h901 => Ef_so h901))))))
  | b + 4 => exact Ef_no
theorem k7_t_X5_members {X : Nat → Nat → Nat → LV → CS → Option RS} (hX : ∀ e m b L (σ : CS), K7 w σ → Ef w (X e m b L σ)) (K d b : Nat) (L : LV) (σ : CS) (hb : K7 w σ) : Ef w (t_X5_members X K d b L σ) := by
  match b with
  | 0 => exact hX _ _ _ _ _ hb
  | 1 => exact Ef_ite (hX _ _ _ _ _ hb) (Ef_ite (Ef_ox (k7_f_X2_advance _ _ _ _ hb) (fun _ h902 => Ef_ite (Ef_oP (fun _ => Ef_ox (k7_f_X7_emit__P _ _ _ _ h902) (fun _ h903 => hX _ _ _ _ _ h903))) (hX _ _ _ _ _ h902))) (hX _ _ _ _ _ hb))
  | 2 => exact Ef_oP (fun _ => Ef_ite (hX _ _ _ _ _ hb) (hX _ _ _ _ _ hb))
  | 3 => exact Ef_of (fun _ => Ef_ox (hX _ _ _ _ _ hb) (fun _ h904 => Ef_ite (hX _ _ _ _ _ h904) (Ef_oP (fun _ => Ef_ox (k7_f_X7_emit__P _ _ _ _ h904) (fun _ h905 => hX _ _ _ _ _ h905)))))
  | 4 => exact hX _ _ _ _ _ hb
  | 5 => exact Ef_ox (k7_f_X7_emit__P _ _ _ _ hb) (fun _ h906 => Ef_so h906)
  | 6 => exact Ef_ite (Ef_ite (Ef_ox (k7_f_X2_advance _ _ _ _ hb) (fun _ h907 => Ef_of (fun _ => Ef_ox (hX _ _ _ _ _ h907) (fun _ h908 => Ef_oP (fun _ => Ef_ox (k7_f_X7_emit__P _ _ _ _ h908) (fun _ h909 => Ef_so h909)))))) (hX _ _ _ _ _ hb)) (hX _ _ _ _ _ hb)
  | 7 => exact hX _ _ _ _ _ hb
  | b + 8 => exact Ef_no
theorem k7_t_X5_named {X : Nat → Nat → Nat → LV → CS → Option RS} (hX : ∀ e m b L (σ : CS), K7 w σ → Ef w (X e m b L σ)) (K d b : Nat) (L : LV) (σ : CS) (hb : K7 w σ) : Ef w (t_X5_named X K d b L σ) := by
  match b with
  | 0 => exact Ef_ox (k7_f_X5_takenName _ _ _ _ hb) (fun _ h910 => Ef_ite (hX _ _ _ _ _ h910) (hX _ _ _ _ _ h910))
  | 1 => exact Ef_oP (fun _ => Ef_ite (hX _ _ _ _ _ hb) (Ef_no))
  | 2 => exact Ef_ite (hX _ _ _ _ _ hb) (Ef_ite (Ef_ite (hX _ _ _ _ _ hb) (hX _ _ _ _ _ hb)) (hX _ _ _ _ _ hb))
  | 3 => exact Ef_ox (k7_f_X5_refuse _ _ _ _ hb) (fun _ h911 => hX _ _ _ _ _ h911)
  | 4 => exact Ef_ite (Ef_oP (fun _ => Ef_ite (Ef_of (fun _ => Ef_ox (hX _ _ _ _ _ hb) (fun _ h912 => Ef_so h912))) (Ef_no))) (hX _ _ _ _ _ hb)
  | 5 => exact Ef_ite (hX _ _ _ _ _ hb) (hX _ _ _ _ _ hb)
  | 6 => exact hX _ _ _ _ _ hb
  | 7 => exact Ef_oP (fun _ => Ef_oP (fun _ => Ef_ite (Ef_ite (hX _ _ _ _ _ hb) (hX _ _ _ _ _ hb)) (Ef_no)))
  | 8 => exact hX _ _ _ _ _ hb
  | 9 => exact Ef_oP (fun _ => Ef_ite (Ef_ox (k7_f_X7_emit__P _ _ _ _ hb) (fun _ h913 => Ef_so h913)) (Ef_no))
  | b + 10 => exact Ef_no
theorem k7_t_X5_operand {X : Nat → Nat → Nat → LV → CS → Option RS} (hX : ∀ e m b L (σ : CS), K7 w σ → Ef w (X e m b L σ)) (K d b : Nat) (L : LV) (σ : CS) (hb : K7 w σ) : Ef w (t_X5_operand X K d b L σ) := by
  match b with
  | 0 => exact Ef_of (fun _ => Ef_ox (hX _ _ _ _ _ hb) (fun _ h914 => hX _ _ _ _ _ h914))
  | 1 => exact Ef_ite (hX _ _ _ _ _ hb) (Ef_ite (hX _ _ _ _ _ hb) (Ef_ite (hX _ _ _ _ _ hb) (hX _ _ _ _ _ hb)))
  | 2 => exact Ef_ite (hX _ _ _ _ _ hb) (hX _ _ _ _ _ hb)
  | 3 => exact Ef_oP (fun _ => Ef_of (fun _ => Ef_ox (hX _ _ _ _ _ hb) (fun _ h915 => Ef_ox (k7_f_X5_mark _ _ _ _ h915) (fun _ h916 => Ef_oP (fun _ => Ef_ox (k7_f_X5_mark _ _ _ _ h916) (fun _ h917 => Ef_ox (k7_f_X5_mark _ _ _ _ h917) (fun _ h918 => Ef_oP (fun _ => Ef_ox (k7_f_X7_emit__P _ _ _ _ h918) (fun _ h919 => hX _ _ _ _ _ h919)))))))))
  | 4 => exact hX _ _ _ _ _ hb
  | 5 => exact Ef_oP (fun _ => hX _ _ _ _ _ (uI_K7 (by decide) (uI_K7 (by decide) (uI_K7 (by decide) hb))))
  | 6 => exact hX _ _ _ _ _ (uI_K7 (by decide) (uI_K7 (by decide) (uI_K7 (by decide) hb)))
  | 7 => exact Ef_so hb
  | b + 8 => exact Ef_no
theorem k7_t_X5_part {X : Nat → Nat → Nat → LV → CS → Option RS} (hX : ∀ e m b L (σ : CS), K7 w σ → Ef w (X e m b L σ)) (K d b : Nat) (L : LV) (σ : CS) (hb : K7 w σ) : Ef w (t_X5_part X K d b L σ) := by
  match b with
  | 0 => exact Ef_ite (Ef_ox (k7_f_X5_opens _ _ _ _ hb) (fun _ h920 => Ef_of (fun _ => Ef_ox (hX _ _ _ _ _ h920) (fun _ h921 => Ef_ox (k7_f_X5_closes _ _ _ _ h921) (fun _ h922 => Ef_so h922))))) (hX _ _ _ _ _ hb)
  | 1 => exact Ef_ox (k7_f_X5_opens _ _ _ _ hb) (fun _ h923 => Ef_of (fun _ => Ef_ox (hX _ _ _ _ _ h923) (fun _ h924 => Ef_ite (Ef_ox (k7_f_X2_advance _ _ _ _ h924) (fun _ h925 => Ef_of (fun _ => Ef_ox (hX _ _ _ _ _ h925) (fun _ h926 => hX _ _ _ _ _ h926)))) (hX _ _ _ _ _ h924))))
  | 2 => exact Ef_ox (k7_f_X5_closes _ _ _ _ hb) (fun _ h927 => Ef_so h927)
  | b + 3 => exact Ef_no
theorem k7_t_X5_primary {X : Nat → Nat → Nat → LV → CS → Option RS} (hX : ∀ e m b L (σ : CS), K7 w σ → Ef w (X e m b L σ)) (K d b : Nat) (L : LV) (σ : CS) (hb : K7 w σ) : Ef w (t_X5_primary X K d b L σ) := by
  match b with
  | 0 => exact Ef_ite (hX _ _ _ _ _ hb) (Ef_ite (hX _ _ _ _ _ hb) (Ef_ite (hX _ _ _ _ _ hb) (Ef_ite (hX _ _ _ _ _ hb) (Ef_ite (hX _ _ _ _ _ hb) (Ef_ite (hX _ _ _ _ _ hb) (Ef_ite (hX _ _ _ _ _ hb) (Ef_ite (hX _ _ _ _ _ hb) (Ef_ite (hX _ _ _ _ _ hb) (Ef_ite (hX _ _ _ _ _ hb) (Ef_ite (hX _ _ _ _ _ hb) (Ef_ite (hX _ _ _ _ _ hb) (hX _ _ _ _ _ hb))))))))))))
  | 1 => exact Ef_of (fun _ => Ef_ox (hX _ _ _ _ _ hb) (fun _ h928 => Ef_so h928))
  | 2 => exact Ef_ox (k7_f_X5_number _ _ _ _ hb) (fun _ h929 => hX _ _ _ _ _ h929)
  | 3 => exact Ef_ox (k7_f_X5_string _ _ _ _ hb) (fun _ h930 => hX _ _ _ _ _ h930)
  | 4 => exact Ef_ox (k7_f_X5_opens _ _ _ _ hb) (fun _ h931 => Ef_of (fun _ => Ef_ox (hX _ _ _ _ _ h931) (fun _ h932 => Ef_ox (k7_f_X5_closes _ _ _ _ h932) (fun _ h933 => hX _ _ _ _ _ h933))))
  | 5 => exact Ef_of (fun _ => Ef_ox (hX _ _ _ _ _ hb) (fun _ h934 => hX _ _ _ _ _ h934))
  | 6 => exact Ef_of (fun _ => Ef_ox (hX _ _ _ _ _ hb) (fun _ h935 => hX _ _ _ _ _ h935))
  | 7 => exact Ef_of (fun _ => Ef_ox (hX _ _ _ _ _ hb) (fun _ h936 => hX _ _ _ _ _ h936))
  | 8 => exact Ef_ite (hX _ _ _ _ _ hb) (hX _ _ _ _ _ hb)
  | 9 => exact Ef_of (fun _ => Ef_ox (hX _ _ _ _ _ hb) (fun _ h937 => hX _ _ _ _ _ h937))
  | 10 => exact Ef_of (fun _ => Ef_ox (hX _ _ _ _ _ hb) (fun _ h938 => hX _ _ _ _ _ h938))
  | 11 => exact Ef_so hb
  | 12 => exact Ef_ite (hX _ _ _ _ _ hb) (hX _ _ _ _ _ hb)
  | 13 => exact Ef_ox (k7_f_X5_push _ _ _ _ hb) (fun _ h939 => Ef_ox (k7_f_X2_advance _ _ _ _ h939) (fun _ h940 => hX _ _ _ _ _ h940))
  | 14 => exact hX _ _ _ _ _ hb
  | 15 => exact Ef_op (k7_y_X11_truth _ _ _ _ hb) (fun _ h941 => hX _ _ _ _ _ h941)
  | b + 16 => exact Ef_no
theorem k7_t_X5_quantifier {X : Nat → Nat → Nat → LV → CS → Option RS} (hX : ∀ e m b L (σ : CS), K7 w σ → Ef w (X e m b L σ)) (K d b : Nat) (L : LV) (σ : CS) (hb : K7 w σ) : Ef w (t_X5_quantifier X K d b L σ) := by
  match b with
  | 0 => exact Ef_ite (hX _ _ _ _ _ hb) (hX _ _ _ _ _ hb)
  | 1 => exact hX _ _ _ _ _ hb
  | 2 => exact Ef_ox (k7_f_X5_opens _ _ _ _ hb) (fun _ h942 => Ef_oP (fun _ => Ef_oP (fun _ => Ef_of (fun _ => Ef_ox (hX _ _ _ _ _ h942) (fun _ h943 => Ef_ox (k7_f_X5_expect _ _ _ _ h943) (fun _ h944 => Ef_of (fun _ => Ef_ox (hX _ _ _ _ _ h944) (fun _ h945 => Ef_oP (fun _ => Ef_oP (fun _ => Ef_ite (hX _ _ _ _ _ (uI_K7 (by decide) h945)) (hX _ _ _ _ _ (uI_K7 (by decide) h945))))))))))))
  | 3 => exact hX _ _ _ _ _ hb
  | 4 => exact Ef_ox (k7_f_X7_emit__P _ _ _ _ hb) (fun _ h946 => Ef_op (k7_y_X7_aim__P _ _ _ _ h946) (fun _ h947 => Ef_op (k7_y_X11_truth _ _ _ _ h947) (fun _ h948 => Ef_ox (k7_f_X5_push _ _ _ _ h948) (fun _ h949 => Ef_oP (fun _ => Ef_ox (k7_f_X7_emit__P _ _ _ _ h949) (fun _ h950 => Ef_oP (fun _ => Ef_oP (fun _ => Ef_ite (Ef_ite (hX _ _ _ _ _ (uA_K7 (n7_0 _) h950)) (hX _ _ _ _ _ (uA_K7 (n7_0 _) h950))) (Ef_no)))))))))
  | 5 => exact hX _ _ _ _ _ hb
  | 6 => exact Ef_op (k7_y_X11_truth _ _ _ _ hb) (fun _ h951 => Ef_ox (k7_f_X5_push _ _ _ _ h951) (fun _ h952 => Ef_oP (fun _ => Ef_oP (fun _ => Ef_op (k7_y_X7_aim__P _ _ _ _ h952) (fun _ h953 => Ef_ox (k7_f_X5_clear _ _ _ _ h953) (fun _ h954 => Ef_oP (fun _ => Ef_ox (k7_f_X7_emit__P _ _ _ _ h954) (fun _ h955 => Ef_oP (fun _ => Ef_so (uI_K7 (fP_7 _ (by decide) (by decide) (by decide)) h955))))))))))
  | b + 7 => exact Ef_no
theorem k7_t_X5_row {X : Nat → Nat → Nat → LV → CS → Option RS} (hX : ∀ e m b L (σ : CS), K7 w σ → Ef w (X e m b L σ)) (K d b : Nat) (L : LV) (σ : CS) (hb : K7 w σ) : Ef w (t_X5_row X K d b L σ) := by
  match b with
  | 0 => exact Ef_ox (k7_f_X5_opens _ _ _ _ hb) (fun _ h956 => Ef_ite (Ef_of (fun _ => Ef_ox (hX _ _ _ _ _ h956) (fun _ h957 => hX _ _ _ _ _ h957))) (hX _ _ _ _ _ h956))
  | 1 => exact Ef_ite (Ef_oP (fun _ => Ef_ox (k7_f_X7_emit__P _ _ _ _ hb) (fun _ h958 => hX _ _ _ _ _ h958))) (hX _ _ _ _ _ hb)
  | 2 => exact Ef_ox (k7_f_X5_closes _ _ _ _ hb) (fun _ h959 => Ef_so h959)
  | 3 => exact Ef_of (fun _ => Ef_ox (hX _ _ _ _ _ hb) (fun _ h960 => Ef_ite (Ef_ox (k7_f_X2_advance _ _ _ _ h960) (fun _ h961 => Ef_of (fun _ => Ef_ox (hX _ _ _ _ _ h961) (fun _ h962 => Ef_oP (fun _ => Ef_ox (k7_f_X7_emit__P _ _ _ _ h962) (fun _ h963 => hX _ _ _ _ _ h963)))))) (hX _ _ _ _ _ h960)))
  | 4 => exact Ef_of (fun _ => Ef_ox (hX _ _ _ _ _ hb) (fun _ h964 => hX _ _ _ _ _ h964))
  | b + 5 => exact Ef_no
theorem k7_t_X5_word {X : Nat → Nat → Nat → LV → CS → Option RS} (hX : ∀ e m b L (σ : CS), K7 w σ → Ef w (X e m b L σ)) (K d b : Nat) (L : LV) (σ : CS) (hb : K7 w σ) : Ef w (t_X5_word X K d b L σ) := by
  match b with
  | 0 => exact Ef_ite (Ef_ite (hX _ _ _ _ _ hb) (hX _ _ _ _ _ hb)) (hX _ _ _ _ _ hb)
  | 1 => exact hX _ _ _ _ _ hb
  | 2 => exact Ef_ite (Ef_ite (Ef_ox (k7_f_X2_advance _ _ _ _ hb) (fun _ h965 => Ef_oP (fun _ => Ef_ox (k7_f_X7_emit__P _ _ _ _ h965) (fun _ h966 => Ef_so h966)))) (hX _ _ _ _ _ hb)) (hX _ _ _ _ _ hb)
  | 3 => exact Ef_op (k7_y_X5_wordOp _ _ _ _ hb) (fun _ h967 => Ef_ite (Ef_ite (Ef_ox (k7_f_X5_refuse _ _ _ _ h967) (fun _ h968 => hX _ _ _ _ _ h968)) (hX _ _ _ _ _ h967)) (hX _ _ _ _ _ h967))
  | 4 => exact Ef_ox (k7_f_X2_advance _ _ _ _ hb) (fun _ h969 => Ef_ox (k7_f_X5_want _ _ _ _ h969) (fun _ h970 => Ef_ox (k7_f_X5_opens _ _ _ _ h970) (fun _ h971 => Ef_of (fun _ => Ef_ox (hX _ _ _ _ _ h971) (fun _ h972 => Ef_ox (k7_f_X5_closes _ _ _ _ h972) (fun _ h973 => Ef_oP (fun _ => Ef_ite (hX _ _ _ _ _ h973) (hX _ _ _ _ _ h973))))))))
  | 5 => exact hX _ _ _ _ _ hb
  | 6 => exact Ef_ox (k7_f_X7_emit__P _ _ _ _ hb) (fun _ h974 => Ef_so h974)
  | b + 7 => exact Ef_no
theorem k7_f_X7_words__P__A0 : ∀ (k b : Nat) (L : LV) (σ : CS), K7 w σ → Ef w (f_X7_words__P__A0 k b L σ) := by
  intro k
  induction k with
  | zero => intro b L σ _; exact Ef_no
  | succ k ih =>
    intro b L σ hb
    match b with
    | 0 =>
      refine Ef_eq (by rw [f_X7_words__P__A0]) ?_
      exact Ef_ite (Ef_ox (k7_f_X7_widen__P _ _ _ _ hb) (fun _ h975 => Ef_ite (ih _ _ _ (uF_K7 (n7_0 _) h975)) (Ef_no))) (Ef_no)
    | 1 =>
      refine Ef_eq (by rw [f_X7_words__P__A0]) ?_
      exact Ef_so (uI_K7 (fP_7 _ (by decide) (by decide) (by decide)) hb)
    | b + 2 =>
      exact Ef_eq (by rw [f_X7_words__P__A0]) Ef_no
theorem k7_f_X5_checkStatement : ∀ (k b : Nat) (L : LV) (σ : CS), K7 w σ → Ef w (f_X5_checkStatement k b L σ) := by
  intro k
  induction k with
  | zero => intro b L σ _; exact Ef_no
  | succ k ih =>
    intro b L σ hb
    match b with
    | 0 =>
      refine Ef_eq (by rw [f_X5_checkStatement]) ?_
      exact Ef_ite (ih _ _ _ hb) (Ef_ite (ih _ _ _ hb) (Ef_ite (ih _ _ _ hb) (Ef_ite (ih _ _ _ hb) (ih _ _ _ hb))))
    | 1 =>
      refine Ef_eq (by rw [f_X5_checkStatement]) ?_
      exact ih _ _ _ hb
    | 2 =>
      refine Ef_eq (by rw [f_X5_checkStatement]) ?_
      exact ih _ _ _ hb
    | 3 =>
      refine Ef_eq (by rw [f_X5_checkStatement]) ?_
      exact Ef_ite (ih _ _ _ hb) (Ef_ite (ih _ _ _ hb) (Ef_ox (k7_f_X5_refuse _ _ _ _ hb) (fun _ h976 => ih _ _ _ h976)))
    | 4 =>
      refine Ef_eq (by rw [f_X5_checkStatement]) ?_
      exact Ef_oP (fun _ => Ef_ite (ih _ _ _ hb) (Ef_ox (k7_f_X5_refuse _ _ _ _ hb) (fun _ h977 => ih _ _ _ h977)))
    | 5 =>
      refine Ef_eq (by rw [f_X5_checkStatement]) ?_
      exact Ef_ite (ih _ _ _ hb) (ih _ _ _ hb)
    | 6 =>
      refine Ef_eq (by rw [f_X5_checkStatement]) ?_
      exact ih _ _ _ hb
    | 7 =>
      refine Ef_eq (by rw [f_X5_checkStatement]) ?_
      exact Ef_ite (ih _ _ _ hb) (Ef_ite (ih _ _ _ hb) (ih _ _ _ hb))
    | 8 =>
      refine Ef_eq (by rw [f_X5_checkStatement]) ?_
      exact Ef_ite (ih _ _ _ hb) (ih _ _ _ hb)
    | 9 =>
      refine Ef_eq (by rw [f_X5_checkStatement]) ?_
      exact Ef_ite (Ef_ite (ih _ _ _ hb) (ih _ _ _ hb)) (ih _ _ _ hb)
    | 10 =>
      refine Ef_eq (by rw [f_X5_checkStatement]) ?_
      exact Ef_ox (k7_f_X5_refuse _ _ _ _ hb) (fun _ h978 => ih _ _ _ h978)
    | 11 =>
      refine Ef_eq (by rw [f_X5_checkStatement]) ?_
      exact Ef_so hb
    | b + 12 =>
      exact Ef_eq (by rw [f_X5_checkStatement]) Ef_no
theorem k7_f_X5_keep__A0 : ∀ (k b : Nat) (L : LV) (σ : CS), K7 w σ → Ef w (f_X5_keep__A0 k b L σ) := by
  intro k
  induction k with
  | zero => intro b L σ _; exact Ef_no
  | succ k ih =>
    intro b L σ hb
    match b with
    | 0 =>
      refine Ef_eq (by rw [f_X5_keep__A0]) ?_
      exact Ef_ite (Ef_ite (Ef_ad (ih _ _ _ (uZ_K7 (by decide) hb))) (ih _ _ _ hb)) (Ef_no)
    | 1 =>
      refine Ef_eq (by rw [f_X5_keep__A0]) ?_
      exact Ef_ite (ih _ _ _ hb) (Ef_so hb)
    | 2 =>
      refine Ef_eq (by rw [f_X5_keep__A0]) ?_
      exact Ef_ite (ih _ _ _ (uF_K7 (by decide) hb)) (Ef_no)
    | 3 =>
      refine Ef_eq (by rw [f_X5_keep__A0]) ?_
      exact Ef_so (uI_K7 (by decide) hb)
    | b + 4 =>
      exact Ef_eq (by rw [f_X5_keep__A0]) Ef_no
theorem k7_f_X5_keepTarget : ∀ (k b : Nat) (L : LV) (σ : CS), K7 w σ → Ef w (f_X5_keepTarget k b L σ) := by
  intro k
  induction k with
  | zero => intro b L σ _; exact Ef_no
  | succ k ih =>
    intro b L σ hb
    match b with
    | 0 =>
      refine Ef_eq (by rw [f_X5_keepTarget]) ?_
      exact Ef_oP (fun _ => ih _ _ _ hb)
    | 1 =>
      refine Ef_eq (by rw [f_X5_keepTarget]) ?_
      exact Ef_ite (ih _ _ _ hb) (Ef_oP (fun _ => Ef_oP (fun _ => Ef_ite (Ef_ite (Ef_ite (Ef_ox (k7_f_X7_words__P__A0 _ _ _ _ hb) (fun _ h979 => Ef_ite (Ef_ite (ih _ _ _ h979) (ih _ _ _ h979)) (Ef_no))) (Ef_no)) (Ef_no)) (Ef_no))))
    | 2 =>
      refine Ef_eq (by rw [f_X5_keepTarget]) ?_
      exact Ef_oP (fun _ => Ef_ox (k7_f_X7_emit__P _ _ _ _ hb) (fun _ h980 => Ef_oP (fun _ => Ef_oP (fun _ => Ef_ite (Ef_ite (ih _ _ _ h980) (ih _ _ _ h980)) (Ef_no)))))
    | 3 =>
      refine Ef_eq (by rw [f_X5_keepTarget]) ?_
      exact ih _ _ _ hb
    | 4 =>
      refine Ef_eq (by rw [f_X5_keepTarget]) ?_
      exact ih _ _ _ hb
    | 5 =>
      refine Ef_eq (by rw [f_X5_keepTarget]) ?_
      exact ih _ _ _ hb
    | 6 =>
      refine Ef_eq (by rw [f_X5_keepTarget]) ?_
      exact Ef_oP (fun _ => Ef_ite (Ef_ox (k7_f_X7_emit__P _ _ _ _ hb) (fun _ h981 => Ef_oP (fun _ => Ef_ox (k7_f_X7_word__P _ _ _ _ h981) (fun _ h982 => Ef_oP (fun _ => Ef_ox (k7_f_X7_word__P _ _ _ _ h982) (fun _ h983 => ih _ _ _ h983)))))) (Ef_no))
    | 7 =>
      refine Ef_eq (by rw [f_X5_keepTarget]) ?_
      exact Ef_ite (ih _ _ _ hb) (Ef_oP (fun _ => Ef_ite (Ef_ox (k7_f_X7_word__P _ _ _ _ hb) (fun _ h984 => ih _ _ _ h984)) (Ef_no)))
    | 8 =>
      refine Ef_eq (by rw [f_X5_keepTarget]) ?_
      exact Ef_oP (fun _ => Ef_ox (k7_f_X7_emit__P _ _ _ _ hb) (fun _ h985 => Ef_oP (fun _ => Ef_oP (fun _ => Ef_ox (k7_f_X5_keep__A0 _ _ _ _ h985) (fun _ h986 => Ef_oP (fun _ => Ef_so (uI_K7 (fP_7 _ (by decide) (by decide) (by decide)) h986)))))))
    | b + 9 =>
      exact Ef_eq (by rw [f_X5_keepTarget]) Ef_no
theorem k7_f_X7_words__P__z42 : ∀ (k b : Nat) (L : LV) (σ : CS), K7 w σ → Ef w (f_X7_words__P__z42 k b L σ) := by
  intro k
  induction k with
  | zero => intro b L σ _; exact Ef_no
  | succ k ih =>
    intro b L σ hb
    match b with
    | 0 =>
      refine Ef_eq (by rw [f_X7_words__P__z42]) ?_
      exact Ef_ox (k7_f_X7_widen__P _ _ _ _ hb) (fun _ h987 => Ef_ite (ih _ _ _ (uF_K7 (n7_0 _) h987)) (Ef_no))
    | 1 =>
      refine Ef_eq (by rw [f_X7_words__P__z42]) ?_
      exact Ef_so (uI_K7 (fP_7 _ (by decide) (by decide) (by decide)) hb)
    | b + 2 =>
      exact Ef_eq (by rw [f_X7_words__P__z42]) Ef_no
theorem k7_f_X5_postponeTarget : ∀ (k b : Nat) (L : LV) (σ : CS), K7 w σ → Ef w (f_X5_postponeTarget k b L σ) := by
  intro k
  induction k with
  | zero => intro b L σ _; exact Ef_no
  | succ k ih =>
    intro b L σ hb
    match b with
    | 0 =>
      refine Ef_eq (by rw [f_X5_postponeTarget]) ?_
      exact Ef_oP (fun _ => Ef_oP (fun _ => Ef_ox (k7_f_X5_keep__A0 _ _ _ _ (uI_K7 (by decide) hb)) (fun _ h988 => Ef_oP (fun _ => Ef_ox (k7_f_X2_advance _ _ _ _ (uI_K7 (fP_7 _ (by decide) (by decide) (by decide)) h988)) (fun _ h989 => Ef_ite (ih _ _ _ h989) (Ef_ox (k7_f_X5_refuse _ _ _ _ h989) (fun _ h990 => ih _ _ _ h990)))))))
    | 1 =>
      refine Ef_eq (by rw [f_X5_postponeTarget]) ?_
      exact Ef_so hb
    | b + 2 =>
      exact Ef_eq (by rw [f_X5_postponeTarget]) Ef_no
theorem k7_f_X7_words__P__z41 : ∀ (k b : Nat) (L : LV) (σ : CS), K7 w σ → Ef w (f_X7_words__P__z41 k b L σ) := by
  intro k
  induction k with
  | zero => intro b L σ _; exact Ef_no
  | succ k ih =>
    intro b L σ hb
    match b with
    | 0 =>
      refine Ef_eq (by rw [f_X7_words__P__z41]) ?_
      exact Ef_ox (k7_f_X7_widen__P _ _ _ _ hb) (fun _ h991 => Ef_ite (ih _ _ _ (uF_K7 (n7_0 _) h991)) (Ef_no))
    | 1 =>
      refine Ef_eq (by rw [f_X7_words__P__z41]) ?_
      exact Ef_so (uI_K7 (fP_7 _ (by decide) (by decide) (by decide)) hb)
    | b + 2 =>
      exact Ef_eq (by rw [f_X7_words__P__z41]) Ef_no
theorem k7_f_X5_emitTarget : ∀ (k b : Nat) (L : LV) (σ : CS), K7 w σ → Ef w (f_X5_emitTarget k b L σ) := by
  intro k
  induction k with
  | zero => intro b L σ _; exact Ef_no
  | succ k ih =>
    intro b L σ hb
    match b with
    | 0 =>
      refine Ef_eq (by rw [f_X5_emitTarget]) ?_
      exact Ef_ite (Ef_ite (ih _ _ _ hb) (ih _ _ _ hb)) (Ef_no)
    | 1 =>
      refine Ef_eq (by rw [f_X5_emitTarget]) ?_
      exact ih _ _ _ hb
    | 2 =>
      refine Ef_eq (by rw [f_X5_emitTarget]) ?_
      exact Ef_oP (fun _ => Ef_ite (Ef_ox (k7_f_X7_emit__P _ _ _ _ hb) (fun _ h992 => Ef_oP (fun _ => Ef_ox (k7_f_X7_word__P _ _ _ _ h992) (fun _ h993 => Ef_oP (fun _ => Ef_ite (Ef_ox (k7_f_X7_word__P _ _ _ _ h993) (fun _ h994 => Ef_oP (fun _ => Ef_ite (Ef_ox (k7_f_X7_words__P__z41 _ _ _ _ h994) (fun _ h995 => Ef_so h995)) (Ef_no)))) (Ef_no)))))) (Ef_no))
    | b + 3 =>
      exact Ef_eq (by rw [f_X5_emitTarget]) Ef_no
theorem k7_f_X5_assignResult : ∀ (k b : Nat) (L : LV) (σ : CS), K7 w σ → Ef w (f_X5_assignResult k b L σ) := by
  intro k
  induction k with
  | zero => intro b L σ _; exact Ef_no
  | succ k ih =>
    intro b L σ hb
    match b with
    | 0 =>
      refine Ef_eq (by rw [f_X5_assignResult]) ?_
      exact Ef_ite (Ef_oP (fun _ => Ef_oP (fun _ => Ef_ite (Ef_ox (k7_f_X7_emit__P _ _ _ _ hb) (fun _ h996 => Ef_ox (k7_f_X5_emitTarget _ _ _ _ h996) (fun _ h997 => Ef_oP (fun _ => Ef_oP (fun _ => Ef_ite (Ef_ox (k7_f_X7_emit__P _ _ _ _ h997) (fun _ h998 => Ef_so h998)) (Ef_no)))))) (Ef_no)))) (Ef_no)
    | b + 1 =>
      exact Ef_eq (by rw [f_X5_assignResult]) Ef_no
theorem k7_f_X5_taking : ∀ (k b : Nat) (L : LV) (σ : CS), K7 w σ → Ef w (f_X5_taking k b L σ) := by
  intro k
  induction k with
  | zero => intro b L σ _; exact Ef_no
  | succ k ih =>
    intro b L σ hb
    match b with
    | 0 =>
      refine Ef_eq (by rw [f_X5_taking]) ?_
      exact Ef_ite (Ef_ite (Ef_ox (k7_f_X5_emitTarget _ _ _ _ hb) (fun _ h999 => Ef_oP (fun _ => Ef_ox (k7_f_X7_emit__P _ _ _ _ h999) (fun _ h1000 => Ef_oP (fun _ => Ef_ox (k7_f_X7_word__P _ _ _ _ h1000) (fun _ h1001 => Ef_ox (k7_f_X5_emitTarget _ _ _ _ h1001) (fun _ h1002 => Ef_oP (fun _ => Ef_oP (fun _ => Ef_ite (Ef_oP (fun _ => Ef_ox (k7_f_X7_emit__P _ _ _ _ (uA_K7 (n7_0 _) h1002)) (fun _ h1003 => Ef_ox (k7_f_X5_emitTarget _ _ _ _ h1003) (fun _ h1004 => Ef_oP (fun _ => Ef_ox (k7_f_X7_emit__P _ _ _ _ h1004) (fun _ h1005 => Ef_so h1005)))))) (Ef_no)))))))))) (Ef_no)) (Ef_no)
    | b + 1 =>
      exact Ef_eq (by rw [f_X5_taking]) Ef_no
theorem k7_f_X5_markNoTarget : ∀ (k b : Nat) (L : LV) (σ : CS), K7 w σ → Ef w (f_X5_markNoTarget k b L σ) := by
  intro k
  induction k with
  | zero => intro b L σ _; exact Ef_no
  | succ k ih =>
    intro b L σ hb
    match b with
    | 0 =>
      refine Ef_eq (by rw [f_X5_markNoTarget]) ?_
      exact Ef_ox (k7_f_X5_mark _ _ _ _ hb) (fun _ h1006 => Ef_ox (k7_f_X5_mark _ _ _ _ h1006) (fun _ h1007 => Ef_ox (k7_f_X5_mark _ _ _ _ h1007) (fun _ h1008 => Ef_ox (k7_f_X5_mark _ _ _ _ h1008) (fun _ h1009 => Ef_so h1009))))
    | b + 1 =>
      exact Ef_eq (by rw [f_X5_markNoTarget]) Ef_no
theorem k7_f_X5_writeHoles : ∀ (k b : Nat) (L : LV) (σ : CS), K7 w σ → Ef w (f_X5_writeHoles k b L σ) := by
  intro k
  induction k with
  | zero => intro b L σ _; exact Ef_no
  | succ k ih =>
    intro b L σ hb
    match b with
    | 0 =>
      refine Ef_eq (by rw [f_X5_writeHoles]) ?_
      exact Ef_oP (fun _ => Ef_ox (k7_f_X7_emit__P _ _ _ _ hb) (fun _ h1010 => ih _ _ _ h1010))
    | 1 =>
      refine Ef_eq (by rw [f_X5_writeHoles]) ?_
      exact Ef_ite (ih _ _ _ hb) (Ef_ite (Ef_ite (ih _ _ _ hb) (Ef_oP (fun _ => Ef_ox (k7_f_X7_emit__P _ _ _ _ hb) (fun _ h1011 => Ef_ox (k7_f_X5_emitTarget _ _ _ _ h1011) (fun _ h1012 => Ef_oP (fun _ => Ef_ox (k7_f_X7_emit__P _ _ _ _ h1012) (fun _ h1013 => ih _ _ _ h1013))))))) (Ef_no))
    | 2 =>
      refine Ef_eq (by rw [f_X5_writeHoles]) ?_
      exact Ef_oP (fun _ => Ef_ox (k7_f_X7_emit__P _ _ _ _ hb) (fun _ h1014 => Ef_so h1014))
    | 3 =>
      refine Ef_eq (by rw [f_X5_writeHoles]) ?_
      exact Ef_ite (Ef_ite (ih _ _ _ hb) (Ef_no)) (Ef_no)
    | b + 4 =>
      exact Ef_eq (by rw [f_X5_writeHoles]) Ef_no
theorem k7_t_X5_loopBody {X : Nat → Nat → Nat → LV → CS → Option RS} (hX : ∀ e m b L (σ : CS), K7 w σ → Ef w (X e m b L σ)) (K d b : Nat) (L : LV) (σ : CS) (hb : K7 w σ) : Ef w (t_X5_loopBody X K d b L σ) := by
  match b with
  | 0 => exact Ef_of (fun _ => Ef_ox (hX _ _ _ _ _ (uI_K7 (by decide) (uI_K7 (by decide) hb))) (fun _ h1015 => Ef_ox (k7_f_X5_closes _ _ _ _ h1015) (fun _ h1016 => Ef_oP (fun _ => Ef_oP (fun _ => Ef_ox (k7_f_X7_emit__P _ _ _ _ h1016) (fun _ h1017 => Ef_op (k7_y_X7_aim__P _ _ _ _ h1017) (fun _ h1018 => Ef_op (k7_y_X5_aimAll _ _ _ _ h1018) (fun _ h1019 => hX _ _ _ _ _ (uI_K7 (by decide) h1019)))))))))
  | 1 => exact Ef_so (uI_K7 (by decide) hb)
  | b + 2 => exact Ef_no
theorem k7_f_X5_begin__P : ∀ (k b : Nat) (L : LV) (σ : CS), K7 w σ → Ef w (f_X5_begin__P k b L σ) := by
  intro k
  induction k with
  | zero => intro b L σ _; exact Ef_no
  | succ k ih =>
    intro b L σ hb
    match b with
    | 0 =>
      refine Ef_eq (by rw [f_X5_begin__P]) ?_
      exact ih _ _ _ (uI_K7 (by decide) (uI_K7 (by decide) (uPp_K7 hb)))
    | 1 =>
      refine Ef_eq (by rw [f_X5_begin__P]) ?_
      exact ih _ _ _ (uI_K7 (by decide) (uI_K7 (by decide) (uI_K7 (by decide) hb)))
    | 2 =>
      refine Ef_eq (by rw [f_X5_begin__P]) ?_
      exact ih _ _ _ (uI_K7 (by decide) (uI_K7 (by decide) (uI_K7 (by decide) hb)))
    | 3 =>
      refine Ef_eq (by rw [f_X5_begin__P]) ?_
      exact Ef_ox (k7_f_X2_rewind _ _ _ _ (uI_K7 (by decide) (uI_K7 (by decide) hb))) (fun _ h1020 => Ef_so h1020)
    | b + 4 =>
      exact Ef_eq (by rw [f_X5_begin__P]) Ef_no
theorem k7_f_X3_evaluate : ∀ (k b : Nat) (L : LV) (σ : CS), K7 w σ → Ef w (f_X3_evaluate k b L σ) := by
  intro k
  induction k with
  | zero => intro b L σ _; exact Ef_no
  | succ k ih =>
    intro b L σ hb
    match b with
    | 0 =>
      refine Ef_eq (by rw [f_X3_evaluate]) ?_
      exact ih _ _ _ (uI_K7 (by decide) (uI_K7 (by decide) (uI_K7 (by decide) hb)))
    | 1 =>
      refine Ef_eq (by rw [f_X3_evaluate]) ?_
      exact Ef_ox (k7_f_X3_pushAll _ _ _ _ hb) (fun _ h1021 => Ef_ox (k7_f_X3_execute _ _ _ _ h1021) (fun _ h1022 => Ef_ite (Ef_ite (ih _ _ _ h1022) (Ef_op (k7_y_J7_fill_53178__a23 _ _ _ _ h1022) (fun _ h1023 => Ef_op (k7_y_X11_raw _ _ _ _ h1023) (fun _ h1024 => ih _ _ _ h1024)))) (Ef_no)))
    | 2 =>
      refine Ef_eq (by rw [f_X3_evaluate]) ?_
      exact ih _ _ _ (uI_K7 (by decide) (uI_K7 (by decide) (uI_K7 (by decide) hb)))
    | 3 =>
      refine Ef_eq (by rw [f_X3_evaluate]) ?_
      exact ih _ _ _ (uL_K7 (uI_K7 (by decide) (uI_K7 (by decide) hb)))
    | 4 =>
      refine Ef_eq (by rw [f_X3_evaluate]) ?_
      exact Ef_so hb
    | b + 5 =>
      exact Ef_eq (by rw [f_X3_evaluate]) Ef_no
theorem k7_f_X11_round : ∀ (k b : Nat) (L : LV) (σ : CS), K7 w σ → Ef w (f_X11_round k b L σ) := by
  intro k
  induction k with
  | zero => intro b L σ _; exact Ef_no
  | succ k ih =>
    intro b L σ hb
    match b with
    | 0 =>
      refine Ef_eq (by rw [f_X11_round]) ?_
      exact Ef_ox (k7_f_X11_wantRun _ _ _ _ hb) (fun _ h1025 => ih _ _ _ h1025)
    | 1 =>
      refine Ef_eq (by rw [f_X11_round]) ?_
      exact Ef_ite (ih _ _ _ hb) (Ef_ite (Ef_ox (k7_f_X3_evaluate _ _ _ _ hb) (fun _ h1026 => Ef_op (k7_y_X11_isError _ _ _ _ h1026) (fun _ h1027 => Ef_ite (ih _ _ _ h1027) (ih _ _ _ h1027)))) (Ef_no))
    | 2 =>
      refine Ef_eq (by rw [f_X11_round]) ?_
      exact Ef_so hb
    | 3 =>
      refine Ef_eq (by rw [f_X11_round]) ?_
      exact ih _ _ _ hb
    | 4 =>
      refine Ef_eq (by rw [f_X11_round]) ?_
      exact Ef_ite (Ef_ox (k7_f_X3_makeRoom _ _ _ _ (uA_K7 (by decide) hb)) (fun _ h1028 => Ef_op (k7_y_X11_renew _ _ _ _ h1028) (fun _ h1029 => Ef_ite (ih _ _ _ h1029) (ih _ _ _ h1029)))) (Ef_no)
    | 5 =>
      refine Ef_eq (by rw [f_X11_round]) ?_
      exact ih _ _ _ hb
    | 6 =>
      refine Ef_eq (by rw [f_X11_round]) ?_
      exact Ef_ite (Ef_ite (ih _ _ _ (uA_K7 (by decide) (uA_K7 (by decide) hb))) (Ef_no)) (Ef_no)
    | b + 7 =>
      exact Ef_eq (by rw [f_X11_round]) Ef_no
theorem k7_f_X11_showValue : ∀ (k b : Nat) (L : LV) (σ : CS), K7 w σ → Ef w (f_X11_showValue k b L σ) := by
  intro k
  induction k with
  | zero => intro b L σ _; exact Ef_no
  | succ k ih =>
    intro b L σ hb
    match b with
    | 0 =>
      refine Ef_eq (by rw [f_X11_showValue]) ?_
      exact Ef_ite (Ef_ite (Ef_ite (ih _ _ _ (uA_K7 (by decide) (uA_K7 (by decide) hb))) (Ef_no)) (Ef_no)) (Ef_no)
    | 1 =>
      refine Ef_eq (by rw [f_X11_showValue]) ?_
      exact Ef_ox (k7_f_X6_print _ _ _ _ (uI_K7 (by decide) hb)) (fun _ h1030 => Ef_ite (Ef_ite (Ef_ite (Ef_ad (ih _ _ _ (uZ_K7 (by decide) (uI_K7 (by decide) h1030)))) (Ef_no)) (ih _ _ _ (uI_K7 (by decide) h1030))) (Ef_no))
    | 2 =>
      refine Ef_eq (by rw [f_X11_showValue]) ?_
      exact Ef_ite (Ef_ite (ih _ _ _ (uF_K7 (by decide) hb)) (Ef_no)) (Ef_no)
    | 3 =>
      refine Ef_eq (by rw [f_X11_showValue]) ?_
      exact Ef_so hb
    | b + 4 =>
      exact Ef_eq (by rw [f_X11_showValue]) Ef_no
theorem k7_f_X11_seen : ∀ (k b : Nat) (L : LV) (σ : CS), K7 w σ → Ef w (f_X11_seen k b L σ) := by
  intro k
  induction k with
  | zero => intro b L σ _; exact Ef_no
  | succ k ih =>
    intro b L σ hb
    match b with
    | 0 =>
      refine Ef_eq (by rw [f_X11_seen]) ?_
      exact Ef_ite (ih _ _ _ hb) (Ef_ite (ih _ _ _ hb) (Ef_ite (ih _ _ _ hb) (Ef_ite (ih _ _ _ hb) (ih _ _ _ hb))))
    | 1 =>
      refine Ef_eq (by rw [f_X11_seen]) ?_
      exact Ef_so hb
    | 2 =>
      refine Ef_eq (by rw [f_X11_seen]) ?_
      exact Ef_ite (Ef_ite (Ef_so hb) (ih _ _ _ hb)) (Ef_no)
    | 3 =>
      refine Ef_eq (by rw [f_X11_seen]) ?_
      exact Ef_ite (Ef_ox (k7_f_X11_showValue _ _ _ _ hb) (fun _ h1031 => Ef_so h1031)) (Ef_no)
    | b + 4 =>
      exact Ef_eq (by rw [f_X11_seen]) Ef_no
theorem k7_f_X11_shape : ∀ (k b : Nat) (L : LV) (σ : CS), K7 w σ → Ef w (f_X11_shape k b L σ) := by
  intro k
  induction k with
  | zero => intro b L σ _; exact Ef_no
  | succ k ih =>
    intro b L σ hb
    match b with
    | 0 =>
      refine Ef_eq (by rw [f_X11_shape]) ?_
      exact Ef_ite (ih _ _ _ hb) (Ef_ite (ih _ _ _ hb) (ih _ _ _ hb))
    | 1 =>
      refine Ef_eq (by rw [f_X11_shape]) ?_
      exact Ef_so hb
    | 2 =>
      refine Ef_eq (by rw [f_X11_shape]) ?_
      exact Ef_ite (Ef_so hb) (ih _ _ _ hb)
    | 3 =>
      refine Ef_eq (by rw [f_X11_shape]) ?_
      exact Ef_ite (Ef_so hb) (ih _ _ _ hb)
    | 4 =>
      refine Ef_eq (by rw [f_X11_shape]) ?_
      exact Ef_ite (Ef_op (k7_y_X1_kind _ _ _ _ hb) (fun _ h1032 => Ef_ite (ih _ _ _ h1032) (Ef_ite (ih _ _ _ h1032) (ih _ _ _ h1032)))) (Ef_no)
    | 5 =>
      refine Ef_eq (by rw [f_X11_shape]) ?_
      exact Ef_so hb
    | 6 =>
      refine Ef_eq (by rw [f_X11_shape]) ?_
      exact Ef_op (k7_y_X1_size _ _ _ _ hb) (fun _ h1033 => Ef_so h1033)
    | 7 =>
      refine Ef_eq (by rw [f_X11_shape]) ?_
      exact Ef_ite (ih _ _ _ hb) (Ef_op (k7_y_X1_length _ _ _ _ hb) (fun _ h1034 => ih _ _ _ h1034))
    | 8 =>
      refine Ef_eq (by rw [f_X11_shape]) ?_
      exact ih _ _ _ hb
    | 9 =>
      refine Ef_eq (by rw [f_X11_shape]) ?_
      exact Ef_so hb
    | b + 10 =>
      exact Ef_eq (by rw [f_X11_shape]) Ef_no
theorem k7_f_X11_shown : ∀ (k b : Nat) (L : LV) (σ : CS), K7 w σ → Ef w (f_X11_shown k b L σ) := by
  intro k
  induction k with
  | zero => intro b L σ _; exact Ef_no
  | succ k ih =>
    intro b L σ hb
    match b with
    | 0 =>
      refine Ef_eq (by rw [f_X11_shown]) ?_
      exact Ef_ite (ih _ _ _ hb) (Ef_ite (ih _ _ _ hb) (ih _ _ _ hb))
    | 1 =>
      refine Ef_eq (by rw [f_X11_shown]) ?_
      exact Ef_so hb
    | 2 =>
      refine Ef_eq (by rw [f_X11_shown]) ?_
      exact Ef_ite (Ef_so hb) (Ef_no)
    | b + 3 =>
      exact Ef_eq (by rw [f_X11_shown]) Ef_no
theorem k7_f_X3_open__P : ∀ (k b : Nat) (L : LV) (σ : CS), K7 w σ → Ef w (f_X3_open__P k b L σ) := by
  intro k
  induction k with
  | zero => intro b L σ _; exact Ef_no
  | succ k ih =>
    intro b L σ hb
    match b with
    | 0 =>
      refine Ef_eq (by rw [f_X3_open__P]) ?_
      exact Ef_op (k7_y_X9_empty _ _ _ _ (uL_K7 (uPr_K7 hb))) (fun _ h1035 => Ef_ox (k7_f_X3_restart _ _ _ _ h1035) (fun _ h1036 => Ef_so h1036))
    | b + 1 =>
      exact Ef_eq (by rw [f_X3_open__P]) Ef_no
theorem k7_f_X11_start : ∀ (k b : Nat) (L : LV) (σ : CS), K7 w σ → Ef w (f_X11_start k b L σ) := by
  intro k
  induction k with
  | zero => intro b L σ _; exact Ef_no
  | succ k ih =>
    intro b L σ hb
    match b with
    | 0 =>
      refine Ef_eq (by rw [f_X11_start]) ?_
      exact Ef_ite (Ef_so hb) (ih _ _ _ hb)
    | 1 =>
      refine Ef_eq (by rw [f_X11_start]) ?_
      exact Ef_ox (k7_f_X3_open__P _ _ _ _ (uI_K7 (by decide) hb)) (fun _ h1037 => Ef_ox (k7_f_X3_advance _ _ _ _ h1037) (fun _ h1038 => Ef_so h1038))
    | b + 2 =>
      exact Ef_eq (by rw [f_X11_start]) Ef_no
theorem k7_f_X11_state : ∀ (k b : Nat) (L : LV) (σ : CS), K7 w σ → Ef w (f_X11_state k b L σ) := by
  intro k
  induction k with
  | zero => intro b L σ _; exact Ef_no
  | succ k ih =>
    intro b L σ hb
    match b with
    | 0 =>
      refine Ef_eq (by rw [f_X11_state]) ?_
      exact Ef_ite (ih _ _ _ hb) (Ef_ite (ih _ _ _ hb) (ih _ _ _ hb))
    | 1 =>
      refine Ef_eq (by rw [f_X11_state]) ?_
      exact Ef_so hb
    | 2 =>
      refine Ef_eq (by rw [f_X11_state]) ?_
      exact Ef_ox (k7_f_X11_wantRun _ _ _ _ hb) (fun _ h1039 => Ef_ite (ih _ _ _ h1039) (Ef_ite (ih _ _ _ h1039) (Ef_ite (ih _ _ _ h1039) (Ef_ite (ih _ _ _ h1039) (Ef_ite (ih _ _ _ h1039) (Ef_ite (ih _ _ _ h1039) (Ef_ite (ih _ _ _ h1039) (Ef_ite (ih _ _ _ h1039) (Ef_ite (ih _ _ _ h1039) (ih _ _ _ h1039))))))))))
    | 3 =>
      refine Ef_eq (by rw [f_X11_state]) ?_
      exact Ef_so hb
    | 4 =>
      refine Ef_eq (by rw [f_X11_state]) ?_
      exact Ef_so hb
    | 5 =>
      refine Ef_eq (by rw [f_X11_state]) ?_
      exact Ef_so hb
    | 6 =>
      refine Ef_eq (by rw [f_X11_state]) ?_
      exact Ef_so hb
    | 7 =>
      refine Ef_eq (by rw [f_X11_state]) ?_
      exact Ef_so hb
    | 8 =>
      refine Ef_eq (by rw [f_X11_state]) ?_
      exact Ef_so hb
    | 9 =>
      refine Ef_eq (by rw [f_X11_state]) ?_
      exact Ef_so hb
    | 10 =>
      refine Ef_eq (by rw [f_X11_state]) ?_
      exact Ef_so hb
    | 11 =>
      refine Ef_eq (by rw [f_X11_state]) ?_
      exact Ef_so hb
    | 12 =>
      refine Ef_eq (by rw [f_X11_state]) ?_
      exact Ef_so hb
    | b + 13 =>
      exact Ef_eq (by rw [f_X11_state]) Ef_no
theorem k7_f_X11_step : ∀ (k b : Nat) (L : LV) (σ : CS), K7 w σ → Ef w (f_X11_step k b L σ) := by
  intro k
  induction k with
  | zero => intro b L σ _; exact Ef_no
  | succ k ih =>
    intro b L σ hb
    match b with
    | 0 =>
      refine Ef_eq (by rw [f_X11_step]) ?_
      exact Ef_ox (k7_f_X11_wantRun _ _ _ _ hb) (fun _ h1040 => Ef_ite (ih _ _ _ h1040) (Ef_ite (ih _ _ _ h1040) (ih _ _ _ h1040)))
    | 1 =>
      refine Ef_eq (by rw [f_X11_step]) ?_
      exact Ef_so hb
    | 2 =>
      refine Ef_eq (by rw [f_X11_step]) ?_
      exact Ef_ox (k7_f_X3_advance _ _ _ _ hb) (fun _ h1041 => Ef_so h1041)
    | b + 3 =>
      exact Ef_eq (by rw [f_X11_step]) Ef_no
theorem k7_f_X11_value : ∀ (k b : Nat) (L : LV) (σ : CS), K7 w σ → Ef w (f_X11_value k b L σ) := by
  intro k
  induction k with
  | zero => intro b L σ _; exact Ef_no
  | succ k ih =>
    intro b L σ hb
    match b with
    | 0 =>
      refine Ef_eq (by rw [f_X11_value]) ?_
      exact Ef_ox (k7_f_X11_wantRun _ _ _ _ hb) (fun _ h1042 => Ef_ox (k7_f_X2_rewind _ _ _ _ h1042) (fun _ h1043 => Ef_ox (k7_f_X2_advance _ _ _ _ h1043) (fun _ h1044 => Ef_ite (Ef_ite (Ef_ite (ih _ _ _ h1044) (ih _ _ _ h1044)) (ih _ _ _ h1044)) (ih _ _ _ h1044))))
    | 1 =>
      refine Ef_eq (by rw [f_X11_value]) ?_
      exact ih _ _ _ hb
    | 2 =>
      refine Ef_eq (by rw [f_X11_value]) ?_
      exact Ef_ite (ih _ _ _ hb) (Ef_op (k7_y_X7_found__P _ _ _ _ hb) (fun _ h1045 => ih _ _ _ h1045))
    | 3 =>
      refine Ef_eq (by rw [f_X11_value]) ?_
      exact ih _ _ _ hb
    | 4 =>
      refine Ef_eq (by rw [f_X11_value]) ?_
      exact Ef_ite (ih _ _ _ hb) (Ef_ite (Ef_ite (ih _ _ _ hb) (ih _ _ _ hb)) (Ef_no))
    | 5 =>
      refine Ef_eq (by rw [f_X11_value]) ?_
      exact Ef_so hb
    | 6 =>
      refine Ef_eq (by rw [f_X11_value]) ?_
      exact Ef_ite (Ef_op (k7_y_X3_global _ _ _ _ (uI_K7 (by decide) hb)) (fun _ h1046 => Ef_ox (k7_f_X11_showValue _ _ _ _ h1046) (fun _ h1047 => Ef_so h1047))) (Ef_no)
    | b + 7 =>
      exact Ef_eq (by rw [f_X11_value]) Ef_no
end K7D
