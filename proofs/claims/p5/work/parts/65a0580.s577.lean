section JnS577
/-! What the reading of an exp leaves of the programs' counts (made by k8.py): it counts variables of unit 41 alone. -/
abbrev K8t := Int32 × Int32 × Int32 × Int32 × Bool × Int32 × Int32
/-- statements, procs of both programs; which is current; variables of both -/
def k8w (σ : CS) : K8t := (σ.1 5003, σ.1 5004, σ.1 6803, σ.1 6804, sCur σ, σ.2.2.1 (pR16 true) 0, σ.2.2.1 (pR16 false) 0)
def L8 (w : K8t) (σ : CS) : Prop := σ.1 4003 = 41 ∧ k8w σ = w
section K8H
variable {w : K8t} {σ : CS}
theorem L8_41 (h : L8 w σ) : ¬ (σ.1 4003).toNatClampNeg = 0 := by rw [h.1]; decide
theorem uI_k8 {j : Nat} {x : Int32} (hj : ¬ j = 5003 ∧ ¬ j = 5004 ∧ ¬ j = 6803 ∧ ¬ j = 6804) : k8w (uI σ j x) = k8w σ := by
  obtain ⟨b, c, d, e⟩ := hj
  unfold k8w
  rw [uI_o (fun z => b z.symm), uI_o (fun z => c z.symm), uI_o (fun z => d z.symm), uI_o (fun z => e z.symm)]
  rfl
theorem uI_L8 {j : Nat} {x : Int32} (hj : ¬ j = 4003 ∧ ¬ j = 5003 ∧ ¬ j = 5004 ∧ ¬ j = 6803 ∧ ¬ j = 6804) (h : L8 w σ) : L8 w (uI σ j x) := ⟨(uI_o (fun z => hj.1 z.symm)).trans h.1, (uI_k8 hj.2).trans h.2⟩
theorem fP_8 (b : Bool) {k : Nat} (h : k ≤ 20) (h3 : ¬ k = 3) (h4 : ¬ k = 4) : ¬ fP b k = 4003 ∧ ¬ fP b k = 5003 ∧ ¬ fP b k = 5004 ∧ ¬ fP b k = 6803 ∧ ¬ fP b k = 6804 := by
  have e : fP true k = 5000 + k ∧ fP false k = 6800 + k := ⟨rfl, rfl⟩
  cases b
  · rw [e.2]; omega
  · rw [e.1]; omega
theorem uF_k8 {k : Nat} {f : Nat → Int32} (hk : n7 k) : k8w (uF σ k f) = k8w σ := by
  have e : ∀ a, ¬ a = k → (uF σ k f).2.2.1 a = σ.2.2.1 a := fun a ha => updG_other ha
  unfold k8w
  rw [e _ (fun z => hk.1 z.symm), e _ (fun z => hk.2 z.symm)]
  rfl
theorem uF_L8 {k : Nat} {f : Nat → Int32} (hk : n7 k) (h : L8 w σ) : L8 w (uF σ k f) := ⟨h.1, (uF_k8 hk).trans h.2⟩
theorem uA_k8 {k i : Nat} {x : Int32} (hk : n7 k) : k8w (uA σ k i x) = k8w σ := uF_k8 hk
theorem uA_L8 {k i : Nat} {x : Int32} (hk : n7 k) (h : L8 w σ) : L8 w (uA σ k i x) := ⟨h.1, (uA_k8 hk).trans h.2⟩
theorem uA16_k8 {b : Bool} {i : Nat} {x : Int32} (hi : ¬ i = 0) : k8w (uA σ (pR16 b) i x) = k8w σ := by
  have e : ∀ a, (uA σ (pR16 b) i x).2.2.1 a 0 = σ.2.2.1 a 0 := fun a => by
    show updG σ.2.2.1 (pR16 b) (upd (σ.2.2.1 (pR16 b)) i x) a 0 = _
    by_cases z : a = pR16 b
    · rw [z, updG_same]; exact upd_other (fun y => hi y.symm)
    · rw [updG_other z]
  unfold k8w
  rw [e, e]
  rfl
theorem uA16_L8 {b : Bool} {i : Nat} {x : Int32} (hi : ¬ i = 0) (h : L8 w σ) : L8 w (uA σ (pR16 b) i x) := ⟨h.1, (uA16_k8 hi).trans h.2⟩
theorem uZ_L8 {k n : Nat} (hk : n7 k) (h : L8 w σ) : L8 w (uZ σ k n) := by
  have e : ∀ a, ¬ a = k → (uZ σ k n).2.2.1 a = σ.2.2.1 a := fun a ha => updG_other ha
  refine ⟨h.1, Eq.trans ?_ h.2⟩
  unfold k8w
  rw [e _ (fun z => hk.1 z.symm), e _ (fun z => hk.2 z.symm)]
  rfl
theorem uC_L8 {b : Bool} {n : Nat} (h : L8 w σ) : L8 w (uC σ b n) := by
  have hk := n7_0 (tS σ b)
  have e : ∀ a, ¬ a = pR0 (tS σ b) → (uC σ b n).2.2.1 a = σ.2.2.1 a := fun a ha => updG_other ha
  refine ⟨h.1, Eq.trans ?_ h.2⟩
  unfold k8w
  rw [e _ (fun z => hk.1 z.symm), e _ (fun z => hk.2 z.symm)]
  rfl
theorem uL_L8 {j : Nat} {x : Int64} (h : L8 w σ) : L8 w (uL σ j x) := h
theorem uJ_L8 {j i : Nat} {x : Int64} (h : L8 w σ) : L8 w (uJ σ j i x) := h
theorem uKd_L8 {b x : Bool} (h : L8 w σ) : L8 w (uKd σ b x) := h
theorem uPi_L8 {i r : Nat} (h : L8 w σ) : L8 w (uPi σ i r) := h
theorem uPp_L8 {b : Option Bool} (h : L8 w σ) : L8 w (uPp σ b) := h
theorem uPr_L8 {b : Option Bool} (h : L8 w σ) : L8 w (uPr σ b) := h
end K8H
section L8C
variable {w : K8t}
/-- whatever comes back: its bytes are bytes -/
def Y8 (w : K8t) (x : Option (Int32 × CS)) : Prop := ∀ r, x = some r → L8 w r.2
def F8 (w : K8t) (x : Option RS) : Prop := ∀ r, x = some r → L8 w r.2.1
theorem Y8_no : Y8 w none := fun _ h => by cases h
theorem F8_no : F8 w none := fun _ h => by cases h
theorem Y8_so {a : Int32} {σ : CS} (h : L8 w σ) : Y8 w (some (a, σ)) := fun _ e => by cases e; exact h
theorem F8_so {a : Nat × Int32} {σ : CS} {q : Nat × Nat} (h : L8 w σ) : F8 w (some (a, σ, q)) := fun _ e => by cases e; exact h
theorem Y8_eq {a a' : Option (Int32 × CS)} (h1 : a = a') (h : Y8 w a') : Y8 w a := by rw [h1]; exact h
theorem F8_eq {a a' : Option RS} (h1 : a = a') (h : F8 w a') : F8 w a := by rw [h1]; exact h
theorem Y8_ite {c : Prop} {_ : Decidable c} {a b : Option (Int32 × CS)} (h1 : Y8 w a) (h2 : Y8 w b) : Y8 w (if c then a else b) := by
  by_cases h : c
  · rw [if_pos h]; exact h1
  · rw [if_neg h]; exact h2
theorem F8_ite {c : Prop} {_ : Decidable c} {a b : Option RS} (h1 : F8 w a) (h2 : F8 w b) : F8 w (if c then a else b) := by
  by_cases h : c
  · rw [if_pos h]; exact h1
  · rw [if_neg h]; exact h2
theorem Y8_oc {x : Option (Int32 × CS)} {f : Int32 × CS → Option (Int32 × CS)} (h1 : Y8 w x) (h2 : ∀ r, L8 w r.2 → Y8 w (f r)) : Y8 w (oc x f) := by
  intro r hr
  cases x with
  | none => cases hr
  | some s => exact h2 s (h1 s rfl) r hr
theorem F8_op {x : Option (Int32 × CS)} {f : Int32 × CS → Option RS} (h1 : Y8 w x) (h2 : ∀ r, L8 w r.2 → F8 w (f r)) : F8 w (Jvm.Pilot.CSetHouseLaw_law_r1811_42fba4.op x f) := by
  intro r hr
  cases x with
  | none => cases hr
  | some s => exact h2 s (h1 s rfl) r hr
theorem F8_ad {q : Nat × Nat} {y : Option RS} (h : F8 w y) : F8 w (adR q y) := by
  intro r hr
  cases y with
  | none => cases hr
  | some s =>
    have e : some (s.1, s.2.1, (q.1 + s.2.2.1, q.2 + s.2.2.2)) = some r := hr
    cases e
    exact h s rfl
theorem F8_ox {x : Option RS} {f : RS → Option RS} (h1 : F8 w x) (h2 : ∀ r, L8 w r.2.1 → F8 w (f r)) : F8 w (ox x f) := by
  cases x with
  | none => exact F8_no
  | some s =>
    have z := h1 s rfl
    show F8 w (if s.1.1 = 0 then adR s.2.2 (f s) else some s)
    refine F8_ite (F8_ad (h2 s z)) (fun r e => ?_)
    cases e
    exact z
theorem F8_oh {x : Option RS} {f g : RS → Option RS} (h1 : F8 w x) (h2 : ∀ r, L8 w r.2.1 → F8 w (f r)) (h3 : ∀ r, L8 w r.2.1 → F8 w (g r)) : F8 w (oh x f g) := by
  cases x with
  | none => exact F8_no
  | some s =>
    have z := h1 s rfl
    exact F8_ite (F8_ad (h2 s z)) (F8_ite (F8_ad (h3 s z)) F8_no)
theorem Y8_oe {d : Nat} {f : Nat → Option (Int32 × CS)} (h : ∀ e, Y8 w (f e)) : Y8 w (oe d f) := by
  cases d with
  | zero => exact Y8_no
  | succ e => exact h e
theorem F8_of {d : Nat} {f : Nat → Option RS} (h : ∀ e, F8 w (f e)) : F8 w (Jvm.Pilot.CSetHouseLaw_law_r1811_42fba4.of d f) := by
  cases d with
  | zero => exact F8_no
  | succ e => exact h e
theorem Y8_oB {x : Option Bool} {f : Bool → Option (Int32 × CS)} (h : ∀ e, Y8 w (f e)) : Y8 w (oB x f) := by
  cases x with
  | none => exact Y8_no
  | some e => exact h e
theorem F8_oP {x : Option Bool} {f : Bool → Option RS} (h : ∀ e, F8 w (f e)) : F8 w (oP x f) := by
  cases x with
  | none => exact F8_no
  | some e => exact h e
theorem F8_oN {x : Option Bool} {u v : Option RS} (h1 : F8 w u) (h2 : F8 w v) : F8 w (oN x u v) := by
  cases x with
  | none => exact h1
  | some e => exact h2
end L8C
section K8D
variable {w : K8t}
theorem k8_f_X5_refuse : ∀ (k b : Nat) (L : LV) (σ : CS), L8 w σ → F8 w (f_X5_refuse k b L σ) := by
  intro k
  induction k with
  | zero => intro b L σ _; exact F8_no
  | succ k ih =>
    intro b L σ hb
    match b with
    | 0 =>
      refine F8_eq (by rw [f_X5_refuse]) ?_
      exact F8_so (uI_L8 (by decide) (uI_L8 (by decide) hb))
    | b + 1 =>
      exact F8_eq (by rw [f_X5_refuse]) F8_no
theorem k8_f_X2_advance : ∀ (k b : Nat) (L : LV) (σ : CS), L8 w σ → F8 w (f_X2_advance k b L σ) := by
  intro k
  induction k with
  | zero => intro b L σ _; exact F8_no
  | succ k ih =>
    intro b L σ hb
    match b with
    | 0 =>
      refine F8_eq (by rw [f_X2_advance]) ?_
      exact ih _ _ _ hb
    | 1 =>
      refine F8_eq (by rw [f_X2_advance]) ?_
      exact F8_ite (ih _ _ _ hb) (F8_ite (ih _ _ _ hb) (F8_ite (F8_ite (ih _ _ _ hb) (F8_ite (ih _ _ _ hb) (ih _ _ _ hb))) (F8_no)))
    | 2 =>
      refine F8_eq (by rw [f_X2_advance]) ?_
      exact F8_ite (ih _ _ _ (uI_L8 (by decide) hb)) (ih _ _ _ (uI_L8 (by decide) hb))
    | 3 =>
      refine F8_eq (by rw [f_X2_advance]) ?_
      exact F8_ite (F8_ite (F8_ite (ih _ _ _ hb) (ih _ _ _ hb)) (F8_no)) (ih _ _ _ hb)
    | 4 =>
      refine F8_eq (by rw [f_X2_advance]) ?_
      exact ih _ _ _ hb
    | 5 =>
      refine F8_eq (by rw [f_X2_advance]) ?_
      exact F8_ite (F8_ite (ih _ _ _ hb) (F8_ite (F8_ite (ih _ _ _ hb) (ih _ _ _ hb)) (F8_no))) (ih _ _ _ hb)
    | 6 =>
      refine F8_eq (by rw [f_X2_advance]) ?_
      exact ih _ _ _ hb
    | 7 =>
      refine F8_eq (by rw [f_X2_advance]) ?_
      exact F8_ite (ih _ _ _ (uI_L8 (by decide) hb)) (ih _ _ _ (uI_L8 (by decide) hb))
    | 8 =>
      refine F8_eq (by rw [f_X2_advance]) ?_
      exact ih _ _ _ hb
    | 9 =>
      refine F8_eq (by rw [f_X2_advance]) ?_
      exact ih _ _ _ hb
    | 10 =>
      refine F8_eq (by rw [f_X2_advance]) ?_
      exact ih _ _ _ hb
    | 11 =>
      refine F8_eq (by rw [f_X2_advance]) ?_
      exact F8_ite (F8_ite (ih _ _ _ hb) (ih _ _ _ hb)) (F8_no)
    | 12 =>
      refine F8_eq (by rw [f_X2_advance]) ?_
      exact F8_ite (F8_ite (ih _ _ _ (uL_L8 (uL_L8 (uI_L8 (by decide) hb)))) (ih _ _ _ (uI_L8 (by decide) hb))) (F8_no)
    | 13 =>
      refine F8_eq (by rw [f_X2_advance]) ?_
      exact F8_ite (ih _ _ _ hb) (ih _ _ _ hb)
    | 14 =>
      refine F8_eq (by rw [f_X2_advance]) ?_
      exact F8_ite (F8_ite (ih _ _ _ hb) (F8_no)) (F8_no)
    | 15 =>
      refine F8_eq (by rw [f_X2_advance]) ?_
      exact F8_ite (ih _ _ _ hb) (ih _ _ _ hb)
    | 16 =>
      refine F8_eq (by rw [f_X2_advance]) ?_
      exact ih _ _ _ hb
    | 17 =>
      refine F8_eq (by rw [f_X2_advance]) ?_
      exact ih _ _ _ hb
    | 18 =>
      refine F8_eq (by rw [f_X2_advance]) ?_
      exact ih _ _ _ hb
    | 19 =>
      refine F8_eq (by rw [f_X2_advance]) ?_
      exact F8_ite (ih _ _ _ hb) (ih _ _ _ hb)
    | 20 =>
      refine F8_eq (by rw [f_X2_advance]) ?_
      exact F8_ite (ih _ _ _ hb) (F8_ite (F8_ite (ih _ _ _ hb) (F8_ite (F8_ite (ih _ _ _ hb) (ih _ _ _ (uI_L8 (by decide) hb))) (F8_no))) (F8_no))
    | 21 =>
      refine F8_eq (by rw [f_X2_advance]) ?_
      exact F8_ite (ih _ _ _ hb) (F8_ite (ih _ _ _ hb) (F8_ite (ih _ _ _ hb) (F8_ite (ih _ _ _ hb) (ih _ _ _ hb))))
    | 22 =>
      refine F8_eq (by rw [f_X2_advance]) ?_
      exact F8_ite (F8_ite (ih _ _ _ hb) (F8_ite (ih _ _ _ hb) (F8_ite (ih _ _ _ hb) (F8_ite (ih _ _ _ hb) (ih _ _ _ hb))))) (ih _ _ _ hb)
    | 23 =>
      refine F8_eq (by rw [f_X2_advance]) ?_
      exact F8_ite (ih _ _ _ hb) (F8_ite (F8_ite (ih _ _ _ hb) (F8_ite (F8_ite (ih _ _ _ hb) (ih _ _ _ (uI_L8 (by decide) hb))) (F8_no))) (F8_no))
    | 24 =>
      refine F8_eq (by rw [f_X2_advance]) ?_
      exact F8_ite (ih _ _ _ hb) (ih _ _ _ hb)
    | 25 =>
      refine F8_eq (by rw [f_X2_advance]) ?_
      exact F8_ite (ih _ _ _ hb) (ih _ _ _ hb)
    | 26 =>
      refine F8_eq (by rw [f_X2_advance]) ?_
      exact F8_ite (ih _ _ _ hb) (F8_ite (ih _ _ _ hb) (F8_no))
    | 27 =>
      refine F8_eq (by rw [f_X2_advance]) ?_
      exact F8_ite (F8_ite (ih _ _ _ hb) (ih _ _ _ hb)) (ih _ _ _ hb)
    | 28 =>
      refine F8_eq (by rw [f_X2_advance]) ?_
      exact F8_ite (ih _ _ _ hb) (ih _ _ _ hb)
    | 29 =>
      refine F8_eq (by rw [f_X2_advance]) ?_
      exact F8_ite (ih _ _ _ hb) (F8_ite (F8_ite (F8_ite (ih _ _ _ hb) (ih _ _ _ hb)) (ih _ _ _ hb)) (F8_no))
    | 30 =>
      refine F8_eq (by rw [f_X2_advance]) ?_
      exact ih _ _ _ hb
    | 31 =>
      refine F8_eq (by rw [f_X2_advance]) ?_
      exact ih _ _ _ (uI_L8 (by decide) hb)
    | 32 =>
      refine F8_eq (by rw [f_X2_advance]) ?_
      exact ih _ _ _ hb
    | 33 =>
      refine F8_eq (by rw [f_X2_advance]) ?_
      exact ih _ _ _ (uI_L8 (by decide) hb)
    | 34 =>
      refine F8_eq (by rw [f_X2_advance]) ?_
      exact ih _ _ _ hb
    | 35 =>
      refine F8_eq (by rw [f_X2_advance]) ?_
      exact F8_ite (ih _ _ _ (uL_L8 hb)) (ih _ _ _ (uL_L8 hb))
    | 36 =>
      refine F8_eq (by rw [f_X2_advance]) ?_
      exact F8_ite (F8_ite (ih _ _ _ hb) (ih _ _ _ hb)) (ih _ _ _ hb)
    | 37 =>
      refine F8_eq (by rw [f_X2_advance]) ?_
      exact F8_ite (ih _ _ _ hb) (ih _ _ _ hb)
    | 38 =>
      refine F8_eq (by rw [f_X2_advance]) ?_
      exact F8_ite (ih _ _ _ hb) (ih _ _ _ hb)
    | 39 =>
      refine F8_eq (by rw [f_X2_advance]) ?_
      exact ih _ _ _ (uI_L8 (by decide) (uI_L8 (by decide) hb))
    | 40 =>
      refine F8_eq (by rw [f_X2_advance]) ?_
      exact ih _ _ _ hb
    | 41 =>
      refine F8_eq (by rw [f_X2_advance]) ?_
      exact ih _ _ _ (uI_L8 (by decide) (uI_L8 (by decide) hb))
    | 42 =>
      refine F8_eq (by rw [f_X2_advance]) ?_
      exact F8_ite (ih _ _ _ hb) (F8_ite (ih _ _ _ hb) (F8_ite (ih _ _ _ hb) (ih _ _ _ hb)))
    | 43 =>
      refine F8_eq (by rw [f_X2_advance]) ?_
      exact F8_ite (ih _ _ _ hb) (F8_ite (ih _ _ _ hb) (F8_ite (F8_ite (ih _ _ _ hb) (ih _ _ _ hb)) (F8_no)))
    | 44 =>
      refine F8_eq (by rw [f_X2_advance]) ?_
      exact F8_ite (ih _ _ _ hb) (F8_no)
    | 45 =>
      refine F8_eq (by rw [f_X2_advance]) ?_
      exact F8_ite (F8_ite (ih _ _ _ (uI_L8 (by decide) (uL_L8 hb))) (ih _ _ _ (uI_L8 (by decide) (uL_L8 hb)))) (F8_no)
    | 46 =>
      refine F8_eq (by rw [f_X2_advance]) ?_
      exact ih _ _ _ hb
    | 47 =>
      refine F8_eq (by rw [f_X2_advance]) ?_
      exact ih _ _ _ (uI_L8 (by decide) (uI_L8 (by decide) hb))
    | 48 =>
      refine F8_eq (by rw [f_X2_advance]) ?_
      exact ih _ _ _ hb
    | 49 =>
      refine F8_eq (by rw [f_X2_advance]) ?_
      exact F8_so hb
    | 50 =>
      refine F8_eq (by rw [f_X2_advance]) ?_
      exact F8_so hb
    | 51 =>
      refine F8_eq (by rw [f_X2_advance]) ?_
      exact ih _ _ _ hb
    | 52 =>
      refine F8_eq (by rw [f_X2_advance]) ?_
      exact ih _ _ _ hb
    | 53 =>
      refine F8_eq (by rw [f_X2_advance]) ?_
      exact ih _ _ _ (uI_L8 (by decide) hb)
    | 54 =>
      refine F8_eq (by rw [f_X2_advance]) ?_
      exact F8_ite (F8_ite (ih _ _ _ hb) (F8_no)) (F8_no)
    | 55 =>
      refine F8_eq (by rw [f_X2_advance]) ?_
      exact ih _ _ _ hb
    | b + 56 =>
      exact F8_eq (by rw [f_X2_advance]) F8_no
theorem k8_f_X5_opens : ∀ (k b : Nat) (L : LV) (σ : CS), L8 w σ → F8 w (f_X5_opens k b L σ) := by
  intro k
  induction k with
  | zero => intro b L σ _; exact F8_no
  | succ k ih =>
    intro b L σ hb
    match b with
    | 0 =>
      refine F8_eq (by rw [f_X5_opens]) ?_
      exact F8_ite (ih _ _ _ hb) (F8_ox (k8_f_X5_refuse _ _ _ _ hb) (fun _ h1 => ih _ _ _ h1))
    | 1 =>
      refine F8_eq (by rw [f_X5_opens]) ?_
      exact F8_ox (k8_f_X2_advance _ _ _ _ (uI_L8 (by decide) hb)) (fun _ h2 => F8_so h2)
    | b + 2 =>
      exact F8_eq (by rw [f_X5_opens]) F8_no
theorem k8_f_X5_expect : ∀ (k b : Nat) (L : LV) (σ : CS), L8 w σ → F8 w (f_X5_expect k b L σ) := by
  intro k
  induction k with
  | zero => intro b L σ _; exact F8_no
  | succ k ih =>
    intro b L σ hb
    match b with
    | 0 =>
      refine F8_eq (by rw [f_X5_expect]) ?_
      exact F8_ite (ih _ _ _ hb) (F8_ox (k8_f_X5_refuse _ _ _ _ hb) (fun _ h3 => ih _ _ _ h3))
    | 1 =>
      refine F8_eq (by rw [f_X5_expect]) ?_
      exact F8_ox (k8_f_X2_advance _ _ _ _ hb) (fun _ h4 => F8_so h4)
    | b + 2 =>
      exact F8_eq (by rw [f_X5_expect]) F8_no
theorem k8_f_X7_widen__P : ∀ (k b : Nat) (L : LV) (σ : CS), L8 w σ → F8 w (f_X7_widen__P k b L σ) := by
  intro k
  induction k with
  | zero => intro b L σ _; exact F8_no
  | succ k ih =>
    intro b L σ hb
    match b with
    | 0 =>
      refine F8_eq (by rw [f_X7_widen__P]) ?_
      exact F8_ite (ih _ _ _ hb) (F8_ite (ih _ _ _ hb) (F8_ite (F8_ite (F8_ad (ih _ _ _ (uC_L8 hb))) (F8_no)) (F8_no)))
    | 1 =>
      refine F8_eq (by rw [f_X7_widen__P]) ?_
      exact F8_ite (ih _ _ _ hb) (F8_so hb)
    | 2 =>
      refine F8_eq (by rw [f_X7_widen__P]) ?_
      exact F8_so hb
    | b + 3 =>
      exact F8_eq (by rw [f_X7_widen__P]) F8_no
theorem k8_f_X7_emit__P : ∀ (k b : Nat) (L : LV) (σ : CS), L8 w σ → F8 w (f_X7_emit__P k b L σ) := by
  intro k
  induction k with
  | zero => intro b L σ _; exact F8_no
  | succ k ih =>
    intro b L σ hb
    match b with
    | 0 =>
      refine F8_eq (by rw [f_X7_emit__P]) ?_
      exact F8_ox (k8_f_X7_widen__P _ _ _ _ hb) (fun _ h5 => F8_ite (F8_so (uI_L8 (fP_8 _ (by decide) (by decide) (by decide)) (uA_L8 (n7_0 _) h5))) (F8_no))
    | b + 1 =>
      exact F8_eq (by rw [f_X7_emit__P]) F8_no
theorem k8_y_X7_aim__P : ∀ (k b : Nat) (L : LV) (σ : CS), L8 w σ → Y8 w (y_X7_aim__P k b L σ) := by
  intro k
  induction k with
  | zero => intro b L σ _; exact Y8_no
  | succ k ih =>
    intro b L σ hb
    match b with
    | 0 =>
      refine Y8_eq (by rw [y_X7_aim__P]) ?_
      exact Y8_ite (Y8_ite (Y8_so (uA_L8 (n7_0 _) hb)) (Y8_no)) (Y8_no)
    | b + 1 =>
      exact Y8_eq (by rw [y_X7_aim__P]) Y8_no
theorem k8_f_X5_closes : ∀ (k b : Nat) (L : LV) (σ : CS), L8 w σ → F8 w (f_X5_closes k b L σ) := by
  intro k
  induction k with
  | zero => intro b L σ _; exact F8_no
  | succ k ih =>
    intro b L σ hb
    match b with
    | 0 =>
      refine F8_eq (by rw [f_X5_closes]) ?_
      exact F8_ite (ih _ _ _ hb) (F8_ox (k8_f_X5_refuse _ _ _ _ hb) (fun _ h6 => ih _ _ _ h6))
    | 1 =>
      refine F8_eq (by rw [f_X5_closes]) ?_
      exact F8_ox (k8_f_X2_advance _ _ _ _ (uI_L8 (by decide) hb)) (fun _ h7 => F8_so h7)
    | b + 2 =>
      exact F8_eq (by rw [f_X5_closes]) F8_no
theorem k8_y_X5_aimAll : ∀ (k b : Nat) (L : LV) (σ : CS), L8 w σ → Y8 w (y_X5_aimAll k b L σ) := by
  intro k
  induction k with
  | zero => intro b L σ _; exact Y8_no
  | succ k ih =>
    intro b L σ hb
    match b with
    | 0 =>
      refine Y8_eq (by rw [y_X5_aimAll]) ?_
      exact ih _ _ _ hb
    | 1 =>
      refine Y8_eq (by rw [y_X5_aimAll]) ?_
      exact Y8_ite (ih _ _ _ hb) (Y8_ite (ih _ _ _ hb) (Y8_oB (fun _ => Y8_ite (Y8_oB (fun _ => Y8_oB (fun _ => Y8_oc (k8_y_X7_aim__P _ _ _ _ hb) (fun _ h8 => ih _ _ _ h8)))) (Y8_no))))
    | 2 =>
      refine Y8_eq (by rw [y_X5_aimAll]) ?_
      exact Y8_so hb
    | b + 3 =>
      exact Y8_eq (by rw [y_X5_aimAll]) Y8_no
theorem k8_t_X5_choice {X : Nat → Nat → Nat → LV → CS → Option RS} (hX : ∀ e m b L (σ : CS), L8 w σ → F8 w (X e m b L σ)) (K d b : Nat) (L : LV) (σ : CS) (hb : L8 w σ) : F8 w (t_X5_choice X K d b L σ) := by
  match b with
  | 0 => exact F8_ox (k8_f_X5_opens _ _ _ _ hb) (fun _ h9 => F8_of (fun _ => F8_ox (hX _ _ _ _ _ h9) (fun _ h10 => F8_ox (k8_f_X5_expect _ _ _ _ h10) (fun _ h11 => F8_oP (fun _ => F8_ox (k8_f_X7_emit__P _ _ _ _ h11) (fun _ h12 => F8_of (fun _ => F8_ox (hX _ _ _ _ _ h12) (fun _ h13 => F8_oP (fun _ => F8_ox (k8_f_X7_emit__P _ _ _ _ h13) (fun _ h14 => F8_oP (fun _ => F8_oP (fun _ => F8_op (k8_y_X7_aim__P _ _ _ _ h14) (fun _ h15 => hX _ _ _ _ _ h15)))))))))))))
  | 1 => exact F8_ite (hX _ _ _ _ _ hb) (F8_ite (F8_ox (k8_f_X2_advance _ _ _ _ hb) (fun _ h16 => F8_of (fun _ => F8_ox (hX _ _ _ _ _ h16) (fun _ h17 => F8_ox (k8_f_X5_expect _ _ _ _ h17) (fun _ h18 => F8_oP (fun _ => F8_ox (k8_f_X7_emit__P _ _ _ _ h18) (fun _ h19 => F8_of (fun _ => F8_ox (hX _ _ _ _ _ h19) (fun _ h20 => F8_oP (fun _ => F8_ox (k8_f_X7_emit__P _ _ _ _ h20) (fun _ h21 => F8_oP (fun _ => F8_oP (fun _ => F8_op (k8_y_X7_aim__P _ _ _ _ h21) (fun _ h22 => hX _ _ _ _ _ h22)))))))))))))) (hX _ _ _ _ _ hb))
  | 2 => exact F8_ox (k8_f_X5_expect _ _ _ _ hb) (fun _ h23 => F8_of (fun _ => F8_ox (hX _ _ _ _ _ h23) (fun _ h24 => F8_ox (k8_f_X5_closes _ _ _ _ h24) (fun _ h25 => F8_op (k8_y_X5_aimAll _ _ _ _ h25) (fun _ h26 => F8_so h26)))))
  | b + 3 => exact F8_no
theorem k8_f_X5_settle : ∀ (k b : Nat) (L : LV) (σ : CS), L8 w σ → F8 w (f_X5_settle k b L σ) := by
  intro k
  induction k with
  | zero => intro b L σ _; exact F8_no
  | succ k ih =>
    intro b L σ hb
    match b with
    | 0 =>
      refine F8_eq (by rw [f_X5_settle]) ?_
      exact ih _ _ _ hb
    | 1 =>
      refine F8_eq (by rw [f_X5_settle]) ?_
      exact F8_ite (ih _ _ _ hb) (F8_ite (ih _ _ _ hb) (F8_ite (F8_ite (ih _ _ _ hb) (F8_ite (F8_ite (F8_oP (fun _ => F8_ite (F8_ox (k8_f_X7_emit__P _ _ _ _ (uI_L8 (by decide) hb)) (fun _ h27 => F8_ite (ih _ _ _ h27) (F8_oP (fun _ => F8_oP (fun _ => F8_op (k8_y_X7_aim__P _ _ _ _ h27) (fun _ h28 => ih _ _ _ h28)))))) (F8_no))) (F8_no)) (F8_no))) (F8_no)))
    | 2 =>
      refine F8_eq (by rw [f_X5_settle]) ?_
      exact F8_so hb
    | 3 =>
      refine F8_eq (by rw [f_X5_settle]) ?_
      exact F8_ite (ih _ _ _ hb) (F8_ite (ih _ _ _ hb) (ih _ _ _ hb))
    | 4 =>
      refine F8_eq (by rw [f_X5_settle]) ?_
      exact F8_ite (F8_ite (F8_oP (fun _ => F8_ox (k8_f_X7_emit__P _ _ _ _ hb) (fun _ h29 => ih _ _ _ h29))) (ih _ _ _ hb)) (F8_no)
    | 5 =>
      refine F8_eq (by rw [f_X5_settle]) ?_
      exact ih _ _ _ (uI_L8 (by decide) hb)
    | 6 =>
      refine F8_eq (by rw [f_X5_settle]) ?_
      exact ih _ _ _ hb
    | b + 7 =>
      exact F8_eq (by rw [f_X5_settle]) F8_no
theorem k8_y_X5_postponedLevel : ∀ (k b : Nat) (L : LV) (σ : CS), L8 w σ → Y8 w (y_X5_postponedLevel k b L σ) := by
  intro k
  induction k with
  | zero => intro b L σ _; exact Y8_no
  | succ k ih =>
    intro b L σ hb
    match b with
    | 0 =>
      refine Y8_eq (by rw [y_X5_postponedLevel]) ?_
      exact Y8_ite (ih _ _ _ hb) (Y8_ite (ih _ _ _ hb) (Y8_no))
    | 1 =>
      refine Y8_eq (by rw [y_X5_postponedLevel]) ?_
      exact ih _ _ _ hb
    | 2 =>
      refine Y8_eq (by rw [y_X5_postponedLevel]) ?_
      exact Y8_so hb
    | b + 3 =>
      exact Y8_eq (by rw [y_X5_postponedLevel]) Y8_no
theorem k8_f_X5_widenMarks : ∀ (k b : Nat) (L : LV) (σ : CS), L8 w σ → F8 w (f_X5_widenMarks k b L σ) := by
  intro k
  induction k with
  | zero => intro b L σ _; exact F8_no
  | succ k ih =>
    intro b L σ hb
    match b with
    | 0 =>
      refine F8_eq (by rw [f_X5_widenMarks]) ?_
      exact F8_ite (ih _ _ _ hb) (F8_ite (ih _ _ _ hb) (F8_ite (F8_ite (F8_ad (ih _ _ _ (uZ_L8 (by decide) hb))) (F8_no)) (F8_no)))
    | 1 =>
      refine F8_eq (by rw [f_X5_widenMarks]) ?_
      exact F8_ite (ih _ _ _ hb) (F8_so hb)
    | 2 =>
      refine F8_eq (by rw [f_X5_widenMarks]) ?_
      exact F8_so hb
    | b + 3 =>
      exact F8_eq (by rw [f_X5_widenMarks]) F8_no
theorem k8_f_X5_postpone : ∀ (k b : Nat) (L : LV) (σ : CS), L8 w σ → F8 w (f_X5_postpone k b L σ) := by
  intro k
  induction k with
  | zero => intro b L σ _; exact F8_no
  | succ k ih =>
    intro b L σ hb
    match b with
    | 0 =>
      refine F8_eq (by rw [f_X5_postpone]) ?_
      exact F8_ox (k8_f_X5_widenMarks _ _ _ _ hb) (fun _ h30 => F8_ite (F8_ite (F8_ite (ih _ _ _ (uA_L8 (by decide) (uA_L8 (by decide) (uA_L8 (by decide) h30)))) (F8_no)) (F8_no)) (F8_no))
    | 1 =>
      refine F8_eq (by rw [f_X5_postpone]) ?_
      exact F8_so (uI_L8 (by decide) hb)
    | b + 2 =>
      exact F8_eq (by rw [f_X5_postpone]) F8_no
theorem k8_f_X5_prefix : ∀ (k b : Nat) (L : LV) (σ : CS), L8 w σ → F8 w (f_X5_prefix k b L σ) := by
  intro k
  induction k with
  | zero => intro b L σ _; exact F8_no
  | succ k ih =>
    intro b L σ hb
    match b with
    | 0 =>
      refine F8_eq (by rw [f_X5_prefix]) ?_
      exact F8_ite (F8_ite (ih _ _ _ hb) (ih _ _ _ hb)) (ih _ _ _ hb)
    | 1 =>
      refine F8_eq (by rw [f_X5_prefix]) ?_
      exact ih _ _ _ hb
    | 2 =>
      refine F8_eq (by rw [f_X5_prefix]) ?_
      exact F8_op (k8_y_X5_postponedLevel _ _ _ _ hb) (fun _ h31 => ih _ _ _ h31)
    | 3 =>
      refine F8_eq (by rw [f_X5_prefix]) ?_
      exact F8_ite (ih _ _ _ hb) (ih _ _ _ hb)
    | 4 =>
      refine F8_eq (by rw [f_X5_prefix]) ?_
      exact F8_ite (ih _ _ _ hb) (ih _ _ _ hb)
    | 5 =>
      refine F8_eq (by rw [f_X5_prefix]) ?_
      exact F8_ite (ih _ _ _ hb) (ih _ _ _ hb)
    | 6 =>
      refine F8_eq (by rw [f_X5_prefix]) ?_
      exact F8_ite (F8_ite (F8_ite (ih _ _ _ hb) (F8_ite (ih _ _ _ hb) (F8_so hb))) (ih _ _ _ hb)) (ih _ _ _ hb)
    | 7 =>
      refine F8_eq (by rw [f_X5_prefix]) ?_
      exact F8_ite (ih _ _ _ hb) (ih _ _ _ hb)
    | 8 =>
      refine F8_eq (by rw [f_X5_prefix]) ?_
      exact F8_ite (ih _ _ _ hb) (F8_ox (k8_f_X5_refuse _ _ _ _ hb) (fun _ h32 => ih _ _ _ h32))
    | 9 =>
      refine F8_eq (by rw [f_X5_prefix]) ?_
      exact F8_ite (ih _ _ _ hb) (ih _ _ _ hb)
    | 10 =>
      refine F8_eq (by rw [f_X5_prefix]) ?_
      exact F8_ox (k8_f_X2_advance _ _ _ _ (uI_L8 (by decide) hb)) (fun _ h33 => F8_ite (ih _ _ _ h33) (F8_ox (k8_f_X5_postpone _ _ _ _ h33) (fun _ h34 => ih _ _ _ h34)))
    | 11 =>
      refine F8_eq (by rw [f_X5_prefix]) ?_
      exact ih _ _ _ hb
    | 12 =>
      refine F8_eq (by rw [f_X5_prefix]) ?_
      exact F8_ite (F8_ite (ih _ _ _ hb) (ih _ _ _ hb)) (ih _ _ _ hb)
    | 13 =>
      refine F8_eq (by rw [f_X5_prefix]) ?_
      exact F8_so hb
    | 14 =>
      refine F8_eq (by rw [f_X5_prefix]) ?_
      exact F8_ox (k8_f_X5_expect _ _ _ _ hb) (fun _ h35 => F8_ox (k8_f_X5_postpone _ _ _ _ h35) (fun _ h36 => ih _ _ _ h36))
    | 15 =>
      refine F8_eq (by rw [f_X5_prefix]) ?_
      exact ih _ _ _ hb
    | 16 =>
      refine F8_eq (by rw [f_X5_prefix]) ?_
      exact F8_ox (k8_f_X5_postpone _ _ _ _ hb) (fun _ h37 => ih _ _ _ h37)
    | b + 17 =>
      exact F8_eq (by rw [f_X5_prefix]) F8_no
theorem k8_y_X5_level : ∀ (k b : Nat) (L : LV) (σ : CS), L8 w σ → Y8 w (y_X5_level k b L σ) := by
  intro k
  induction k with
  | zero => intro b L σ _; exact Y8_no
  | succ k ih =>
    intro b L σ hb
    match b with
    | 0 =>
      refine Y8_eq (by rw [y_X5_level]) ?_
      exact Y8_ite (ih _ _ _ hb) (Y8_ite (ih _ _ _ hb) (Y8_ite (ih _ _ _ hb) (Y8_ite (ih _ _ _ hb) (Y8_ite (ih _ _ _ hb) (Y8_ite (ih _ _ _ hb) (Y8_ite (ih _ _ _ hb) (Y8_ite (ih _ _ _ hb) (Y8_ite (ih _ _ _ hb) (Y8_ite (ih _ _ _ hb) (Y8_ite (ih _ _ _ hb) (Y8_ite (ih _ _ _ hb) (Y8_ite (ih _ _ _ hb) (Y8_ite (ih _ _ _ hb) (Y8_ite (ih _ _ _ hb) (Y8_ite (ih _ _ _ hb) (Y8_ite (ih _ _ _ hb) (Y8_ite (ih _ _ _ hb) (Y8_ite (ih _ _ _ hb) (Y8_ite (ih _ _ _ hb) (Y8_ite (ih _ _ _ hb) (Y8_ite (ih _ _ _ hb) (Y8_ite (ih _ _ _ hb) (Y8_ite (ih _ _ _ hb) (Y8_ite (ih _ _ _ hb) (Y8_ite (ih _ _ _ hb) (Y8_ite (ih _ _ _ hb) (Y8_ite (ih _ _ _ hb) (Y8_ite (ih _ _ _ hb) (Y8_ite (ih _ _ _ hb) (Y8_ite (ih _ _ _ hb) (Y8_ite (ih _ _ _ hb) (Y8_ite (ih _ _ _ hb) (Y8_ite (ih _ _ _ hb) (Y8_ite (ih _ _ _ hb) (Y8_ite (ih _ _ _ hb) (Y8_ite (ih _ _ _ hb) (Y8_ite (ih _ _ _ hb) (Y8_ite (ih _ _ _ hb) (Y8_ite (ih _ _ _ hb) (Y8_ite (ih _ _ _ hb) (Y8_ite (ih _ _ _ hb) (Y8_ite (ih _ _ _ hb) (Y8_ite (ih _ _ _ hb) (Y8_ite (ih _ _ _ hb) (Y8_ite (ih _ _ _ hb) (Y8_ite (ih _ _ _ hb) (Y8_ite (ih _ _ _ hb) (Y8_ite (ih _ _ _ hb) (Y8_ite (ih _ _ _ hb) (Y8_ite (ih _ _ _ hb) (Y8_ite (ih _ _ _ hb) (Y8_ite (ih _ _ _ hb) (Y8_ite (ih _ _ _ hb) (Y8_ite (ih _ _ _ hb) (Y8_ite (ih _ _ _ hb) (Y8_ite (ih _ _ _ hb) (Y8_ite (ih _ _ _ hb) (Y8_ite (ih _ _ _ hb) (Y8_ite (ih _ _ _ hb) (Y8_ite (ih _ _ _ hb) (Y8_ite (ih _ _ _ hb) (Y8_ite (ih _ _ _ hb) (ih _ _ _ hb)))))))))))))))))))))))))))))))))))))))))))))))))))))))))))))))
    | 1 =>
      refine Y8_eq (by rw [y_X5_level]) ?_
      exact Y8_so hb
    | 2 =>
      refine Y8_eq (by rw [y_X5_level]) ?_
      exact Y8_so hb
    | 3 =>
      refine Y8_eq (by rw [y_X5_level]) ?_
      exact Y8_so hb
    | 4 =>
      refine Y8_eq (by rw [y_X5_level]) ?_
      exact Y8_so hb
    | 5 =>
      refine Y8_eq (by rw [y_X5_level]) ?_
      exact Y8_so hb
    | 6 =>
      refine Y8_eq (by rw [y_X5_level]) ?_
      exact Y8_so hb
    | 7 =>
      refine Y8_eq (by rw [y_X5_level]) ?_
      exact Y8_so hb
    | b + 8 =>
      exact Y8_eq (by rw [y_X5_level]) Y8_no
theorem k8_y_X5_binaryOp : ∀ (k b : Nat) (L : LV) (σ : CS), L8 w σ → Y8 w (y_X5_binaryOp k b L σ) := by
  intro k
  induction k with
  | zero => intro b L σ _; exact Y8_no
  | succ k ih =>
    intro b L σ hb
    match b with
    | 0 =>
      refine Y8_eq (by rw [y_X5_binaryOp]) ?_
      exact Y8_ite (ih _ _ _ hb) (Y8_ite (ih _ _ _ hb) (Y8_ite (ih _ _ _ hb) (Y8_ite (ih _ _ _ hb) (Y8_ite (ih _ _ _ hb) (Y8_ite (ih _ _ _ hb) (Y8_ite (ih _ _ _ hb) (Y8_ite (ih _ _ _ hb) (Y8_ite (ih _ _ _ hb) (ih _ _ _ hb)))))))))
    | 1 =>
      refine Y8_eq (by rw [y_X5_binaryOp]) ?_
      exact Y8_so hb
    | 2 =>
      refine Y8_eq (by rw [y_X5_binaryOp]) ?_
      exact Y8_so hb
    | 3 =>
      refine Y8_eq (by rw [y_X5_binaryOp]) ?_
      exact Y8_so hb
    | 4 =>
      refine Y8_eq (by rw [y_X5_binaryOp]) ?_
      exact Y8_so hb
    | 5 =>
      refine Y8_eq (by rw [y_X5_binaryOp]) ?_
      exact Y8_so hb
    | 6 =>
      refine Y8_eq (by rw [y_X5_binaryOp]) ?_
      exact Y8_so hb
    | 7 =>
      refine Y8_eq (by rw [y_X5_binaryOp]) ?_
      exact Y8_so hb
    | 8 =>
      refine Y8_eq (by rw [y_X5_binaryOp]) ?_
      exact Y8_so hb
    | 9 =>
      refine Y8_eq (by rw [y_X5_binaryOp]) ?_
      exact Y8_so hb
    | 10 =>
      refine Y8_eq (by rw [y_X5_binaryOp]) ?_
      exact Y8_so hb
    | b + 11 =>
      exact Y8_eq (by rw [y_X5_binaryOp]) Y8_no
theorem k8_t_X5_exp {X : Nat → Nat → Nat → LV → CS → Option RS} (hX : ∀ e m b L (σ : CS), L8 w σ → F8 w (X e m b L σ)) (K d b : Nat) (L : LV) (σ : CS) (hb : L8 w σ) : F8 w (t_X5_exp X K d b L σ) := by
  match b with
  | 0 => exact hX _ _ _ _ _ hb
  | 1 => exact F8_ite (hX _ _ _ _ _ hb) (F8_ite (hX _ _ _ _ _ hb) (hX _ _ _ _ _ hb))
  | 2 => exact F8_ox (k8_f_X5_settle _ _ _ _ hb) (fun _ h38 => F8_so h38)
  | 3 => exact F8_ite (hX _ _ _ _ _ hb) (F8_ite (hX _ _ _ _ _ hb) (F8_ox (k8_f_X5_prefix _ _ _ _ hb) (fun _ h39 => hX _ _ _ _ _ h39)))
  | 4 => exact F8_of (fun _ => F8_ox (hX _ _ _ _ _ hb) (fun _ h40 => F8_op (k8_y_X5_level _ _ _ _ h40) (fun _ h41 => F8_ite (hX _ _ _ _ _ h41) (hX _ _ _ _ _ h41))))
  | 5 => exact hX _ _ _ _ _ hb
  | 6 => exact F8_ite (hX _ _ _ _ _ hb) (F8_ite (hX _ _ _ _ _ hb) (F8_ite (hX _ _ _ _ _ hb) (hX _ _ _ _ _ hb)))
  | 7 => exact F8_ite (hX _ _ _ _ _ hb) (F8_ite (F8_ox (k8_f_X5_opens _ _ _ _ hb) (fun _ h42 => hX _ _ _ _ _ h42)) (hX _ _ _ _ _ hb))
  | 8 => exact hX _ _ _ _ _ hb
  | 9 => exact hX _ _ _ _ _ hb
  | 10 => exact F8_ite (hX _ _ _ _ _ hb) (F8_ox (k8_f_X2_advance _ _ _ _ hb) (fun _ h43 => hX _ _ _ _ _ h43))
  | 11 => exact F8_ite (hX _ _ _ _ _ hb) (F8_ite (hX _ _ _ _ _ hb) (F8_oP (fun _ => F8_ite (hX _ _ _ _ _ hb) (hX _ _ _ _ _ hb))))
  | 12 => exact F8_ite (hX _ _ _ _ _ hb) (hX _ _ _ _ _ hb)
  | 13 => exact F8_ite (hX _ _ _ _ _ hb) (F8_op (k8_y_X5_binaryOp _ _ _ _ hb) (fun _ h44 => F8_ox (k8_f_X5_postpone _ _ _ _ h44) (fun _ h45 => hX _ _ _ _ _ h45)))
  | 14 => exact hX _ _ _ _ _ hb
  | 15 => exact F8_ox (k8_f_X7_emit__P _ _ _ _ hb) (fun _ h46 => F8_ox (k8_f_X5_postpone _ _ _ _ h46) (fun _ h47 => hX _ _ _ _ _ h47))
  | 16 => exact hX _ _ _ _ _ hb
  | 17 => exact F8_ox (k8_f_X5_settle _ _ _ _ hb) (fun _ h48 => F8_ite (F8_op (k8_y_X5_postponedLevel _ _ _ _ h48) (fun _ h49 => F8_ite (hX _ _ _ _ _ h49) (hX _ _ _ _ _ h49))) (hX _ _ _ _ _ h48))
  | 18 => exact hX _ _ _ _ _ hb
  | 19 => exact hX _ _ _ _ _ hb
  | 20 => exact hX _ _ _ _ _ hb
  | 21 => exact hX _ _ _ _ _ hb
  | b + 22 => exact F8_no
theorem k8_t_X5_exps {X : Nat → Nat → Nat → LV → CS → Option RS} (hX : ∀ e m b L (σ : CS), L8 w σ → F8 w (X e m b L σ)) (K d b : Nat) (L : LV) (σ : CS) (hb : L8 w σ) : F8 w (t_X5_exps X K d b L σ) := by
  match b with
  | 0 => exact F8_of (fun _ => F8_ox (hX _ _ _ _ _ hb) (fun _ h50 => hX _ _ _ _ _ h50))
  | 1 => exact F8_ite (hX _ _ _ _ _ hb) (F8_ite (F8_ox (k8_f_X2_advance _ _ _ _ hb) (fun _ h51 => F8_of (fun _ => F8_ox (hX _ _ _ _ _ h51) (fun _ h52 => hX _ _ _ _ _ h52)))) (hX _ _ _ _ _ hb))
  | 2 => exact F8_so hb
  | b + 3 => exact F8_no
theorem k8_f_X7_word__P : ∀ (k b : Nat) (L : LV) (σ : CS), L8 w σ → F8 w (f_X7_word__P k b L σ) := by
  intro k
  induction k with
  | zero => intro b L σ _; exact F8_no
  | succ k ih =>
    intro b L σ hb
    match b with
    | 0 =>
      refine F8_eq (by rw [f_X7_word__P]) ?_
      exact F8_ox (k8_f_X7_widen__P _ _ _ _ hb) (fun _ h53 => F8_ite (F8_so (uI_L8 (fP_8 _ (by decide) (by decide) (by decide)) (uA_L8 (n7_0 _) h53))) (F8_no))
    | b + 1 =>
      exact F8_eq (by rw [f_X7_word__P]) F8_no
theorem k8_f_X5_clear : ∀ (k b : Nat) (L : LV) (σ : CS), L8 w σ → F8 w (f_X5_clear k b L σ) := by
  intro k
  induction k with
  | zero => intro b L σ _; exact F8_no
  | succ k ih =>
    intro b L σ hb
    match b with
    | 0 =>
      refine F8_eq (by rw [f_X5_clear]) ?_
      exact F8_oP (fun _ => F8_ox (k8_f_X7_emit__P _ _ _ _ hb) (fun _ h54 => F8_oP (fun _ => F8_oP (fun _ => F8_ox (k8_f_X7_word__P _ _ _ _ h54) (fun _ h55 => F8_oP (fun _ => F8_so (uI_L8 (fP_8 _ (by decide) (by decide) (by decide)) h55)))))))
    | b + 1 =>
      exact F8_eq (by rw [f_X5_clear]) F8_no
theorem k8_t_X5_former {X : Nat → Nat → Nat → LV → CS → Option RS} (hX : ∀ e m b L (σ : CS), L8 w σ → F8 w (X e m b L σ)) (K d b : Nat) (L : LV) (σ : CS) (hb : L8 w σ) : F8 w (t_X5_former X K d b L σ) := by
  match b with
  | 0 => exact F8_ox (k8_f_X2_advance _ _ _ _ hb) (fun _ h56 => F8_oP (fun _ => F8_oP (fun _ => F8_oP (fun _ => F8_ox (k8_f_X7_emit__P _ _ _ _ h56) (fun _ h57 => F8_of (fun _ => F8_ox (hX _ _ _ _ _ h57) (fun _ h58 => F8_ite (F8_ox (k8_f_X2_advance _ _ _ _ h58) (fun _ h59 => F8_of (fun _ => F8_ox (hX _ _ _ _ _ h59) (fun _ h60 => F8_oP (fun _ => F8_oP (fun _ => F8_ox (k8_f_X7_emit__P _ _ _ _ h60) (fun _ h61 => F8_op (k8_y_X7_aim__P _ _ _ _ h61) (fun _ h62 => hX _ _ _ _ _ h62)))))))) (hX _ _ _ _ _ h58))))))))
  | 1 => exact F8_ox (k8_f_X5_expect _ _ _ _ hb) (fun _ h63 => F8_of (fun _ => F8_ox (hX _ _ _ _ _ h63) (fun _ h64 => F8_oP (fun _ => F8_ox (k8_f_X7_emit__P _ _ _ _ h64) (fun _ h65 => F8_oP (fun _ => F8_oP (fun _ => F8_ox (k8_f_X7_emit__P _ _ _ _ h65) (fun _ h66 => F8_op (k8_y_X7_aim__P _ _ _ _ h66) (fun _ h67 => F8_oP (fun _ => F8_oP (fun _ => F8_ite (F8_ox (k8_f_X5_clear _ _ _ _ (uA_L8 (n7_0 _) h67)) (fun _ h68 => F8_oP (fun _ => F8_ox (k8_f_X7_emit__P _ _ _ _ h68) (fun _ h69 => F8_oP (fun _ => F8_so (uI_L8 (fP_8 _ (by decide) (by decide) (by decide)) h69)))))) (F8_no))))))))))))
  | b + 2 => exact F8_no
theorem k8_f_X5_want : ∀ (k b : Nat) (L : LV) (σ : CS), L8 w σ → F8 w (f_X5_want k b L σ) := by
  intro k
  induction k with
  | zero => intro b L σ _; exact F8_no
  | succ k ih =>
    intro b L σ hb
    match b with
    | 0 =>
      refine F8_eq (by rw [f_X5_want]) ?_
      exact F8_ite (ih _ _ _ hb) (F8_ox (k8_f_X5_refuse _ _ _ _ hb) (fun _ h70 => ih _ _ _ h70))
    | 1 =>
      refine F8_eq (by rw [f_X5_want]) ?_
      exact F8_so hb
    | b + 2 =>
      exact F8_eq (by rw [f_X5_want]) F8_no
theorem k8_t_X5_functionCall {X : Nat → Nat → Nat → LV → CS → Option RS} (hX : ∀ e m b L (σ : CS), L8 w σ → F8 w (X e m b L σ)) (K d b : Nat) (L : LV) (σ : CS) (hb : L8 w σ) : F8 w (t_X5_functionCall X K d b L σ) := by
  match b with
  | 0 => exact F8_oP (fun _ => F8_ox (k8_f_X7_emit__P _ _ _ _ hb) (fun _ h71 => F8_ox (k8_f_X5_opens _ _ _ _ h71) (fun _ h72 => F8_ite (hX _ _ _ _ _ h72) (hX _ _ _ _ _ h72))))
  | 1 => exact F8_of (fun _ => F8_ox (hX _ _ _ _ _ hb) (fun _ h73 => hX _ _ _ _ _ h73))
  | 2 => exact F8_ox (k8_f_X5_want _ _ _ _ hb) (fun _ h74 => F8_oP (fun _ => F8_ite (F8_ite (hX _ _ _ _ _ h74) (F8_ox (k8_f_X5_refuse _ _ _ _ h74) (fun _ h75 => hX _ _ _ _ _ h75))) (F8_no)))
  | 3 => exact F8_ox (k8_f_X5_closes _ _ _ _ hb) (fun _ h76 => F8_oP (fun _ => F8_ox (k8_f_X7_emit__P _ _ _ _ h76) (fun _ h77 => F8_oP (fun _ => F8_oP (fun _ => F8_ox (k8_f_X7_word__P _ _ _ _ h77) (fun _ h78 => F8_so h78))))))
  | b + 4 => exact F8_no
theorem k8_y_X7_isToldFrom__P : ∀ (k b : Nat) (L : LV) (σ : CS), L8 w σ → Y8 w (y_X7_isToldFrom__P k b L σ) := by
  intro k
  induction k with
  | zero => intro b L σ _; exact Y8_no
  | succ k ih =>
    intro b L σ hb
    match b with
    | 0 =>
      refine Y8_eq (by rw [y_X7_isToldFrom__P]) ?_
      exact ih _ _ _ hb
    | 1 =>
      refine Y8_eq (by rw [y_X7_isToldFrom__P]) ?_
      exact Y8_ite (ih _ _ _ hb) (Y8_ite (Y8_ite (Y8_ite (Y8_ite (Y8_so hb) (ih _ _ _ hb)) (Y8_no)) (ih _ _ _ hb)) (Y8_no))
    | 2 =>
      refine Y8_eq (by rw [y_X7_isToldFrom__P]) ?_
      exact Y8_so hb
    | 3 =>
      refine Y8_eq (by rw [y_X7_isToldFrom__P]) ?_
      exact ih _ _ _ hb
    | b + 4 =>
      exact Y8_eq (by rw [y_X7_isToldFrom__P]) Y8_no
theorem k8_f_X5_checkName : ∀ (k b : Nat) (L : LV) (σ : CS), L8 w σ → F8 w (f_X5_checkName k b L σ) := by
  intro k
  induction k with
  | zero => intro b L σ _; exact F8_no
  | succ k ih =>
    intro b L σ hb
    match b with
    | 0 =>
      refine F8_eq (by rw [f_X5_checkName]) ?_
      exact F8_ite (ih _ _ _ hb) (F8_ox (k8_f_X5_refuse _ _ _ _ hb) (fun _ h79 => ih _ _ _ h79))
    | 1 =>
      refine F8_eq (by rw [f_X5_checkName]) ?_
      exact F8_oP (fun _ => F8_op (k8_y_X7_isToldFrom__P _ _ _ _ hb) (fun _ h80 => F8_ite (ih _ _ _ h80) (F8_ox (k8_f_X5_refuse _ _ _ _ h80) (fun _ h81 => ih _ _ _ h81))))
    | 2 =>
      refine F8_eq (by rw [f_X5_checkName]) ?_
      exact F8_oP (fun _ => F8_ite (F8_ite (ih _ _ _ hb) (F8_ox (k8_f_X5_refuse _ _ _ _ hb) (fun _ h82 => ih _ _ _ h82))) (F8_no))
    | 3 =>
      refine F8_eq (by rw [f_X5_checkName]) ?_
      exact F8_oP (fun _ => F8_ite (F8_ite (F8_so (uA16_L8 (L8_41 hb) hb)) (F8_no)) (F8_no))
    | b + 4 =>
      exact F8_eq (by rw [f_X5_checkName]) F8_no
theorem k8_y_X7_newSlots__P : ∀ (k b : Nat) (L : LV) (σ : CS), L8 w σ → Y8 w (y_X7_newSlots__P k b L σ) := by
  intro k
  induction k with
  | zero => intro b L σ _; exact Y8_no
  | succ k ih =>
    intro b L σ hb
    match b with
    | 0 =>
      refine Y8_eq (by rw [y_X7_newSlots__P]) ?_
      exact Y8_ite (Y8_ite (Y8_ite (Y8_so (uA_L8 (n7_18 _) hb)) (Y8_no)) (Y8_no)) (Y8_no)
    | b + 1 =>
      exact Y8_eq (by rw [y_X7_newSlots__P]) Y8_no
theorem k8_y_X7_newPassing__P : ∀ (k b : Nat) (L : LV) (σ : CS), L8 w σ → Y8 w (y_X7_newPassing__P k b L σ) := by
  intro k
  induction k with
  | zero => intro b L σ _; exact Y8_no
  | succ k ih =>
    intro b L σ hb
    match b with
    | 0 =>
      refine Y8_eq (by rw [y_X7_newPassing__P]) ?_
      exact Y8_so (uI_L8 (fP_8 _ (by decide) (by decide) (by decide)) hb)
    | b + 1 =>
      exact Y8_eq (by rw [y_X7_newPassing__P]) Y8_no
theorem k8_y_X7_tell__P : ∀ (k b : Nat) (L : LV) (σ : CS), L8 w σ → Y8 w (y_X7_tell__P k b L σ) := by
  intro k
  induction k with
  | zero => intro b L σ _; exact Y8_no
  | succ k ih =>
    intro b L σ hb
    match b with
    | 0 =>
      refine Y8_eq (by rw [y_X7_tell__P]) ?_
      exact Y8_ite (ih _ _ _ hb) (Y8_ite (Y8_ite (Y8_ite (ih _ _ _ (uA_L8 (n7_7 _) (uJ_L8 (uJ_L8 hb)))) (Y8_no)) (Y8_no)) (Y8_no))
    | 1 =>
      refine Y8_eq (by rw [y_X7_tell__P]) ?_
      exact Y8_so hb
    | 2 =>
      refine Y8_eq (by rw [y_X7_tell__P]) ?_
      exact Y8_ite (Y8_ite (Y8_ite (ih _ _ _ (uA_L8 (n7_10 _) (uA_L8 (n7_9 _) (uA_L8 (n7_8 _) hb)))) (Y8_no)) (Y8_no)) (Y8_no)
    | 3 =>
      refine Y8_eq (by rw [y_X7_tell__P]) ?_
      exact ih _ _ _ (uI_L8 (fP_8 _ (by decide) (by decide) (by decide)) hb)
    | b + 4 =>
      exact Y8_eq (by rw [y_X7_tell__P]) Y8_no
theorem k8_f_X5_iterNames : ∀ (k b : Nat) (L : LV) (σ : CS), L8 w σ → F8 w (f_X5_iterNames k b L σ) := by
  intro k
  induction k with
  | zero => intro b L σ _; exact F8_no
  | succ k ih =>
    intro b L σ hb
    match b with
    | 0 =>
      refine F8_eq (by rw [f_X5_iterNames]) ?_
      exact F8_ite (ih _ _ _ hb) (F8_ox (k8_f_X5_opens _ _ _ _ hb) (fun _ h83 => ih _ _ _ h83))
    | 1 =>
      refine F8_eq (by rw [f_X5_iterNames]) ?_
      exact ih _ _ _ hb
    | 2 =>
      refine F8_eq (by rw [f_X5_iterNames]) ?_
      exact F8_ite (ih _ _ _ hb) (F8_ite (ih _ _ _ hb) (F8_ox (k8_f_X5_checkName _ _ _ _ hb) (fun _ h84 => F8_oP (fun _ => F8_ite (F8_ite (ih _ _ _ h84) (ih _ _ _ h84)) (F8_no)))))
    | 3 =>
      refine F8_eq (by rw [f_X5_iterNames]) ?_
      exact F8_ite (ih _ _ _ hb) (F8_ox (k8_f_X5_closes _ _ _ _ hb) (fun _ h85 => ih _ _ _ h85))
    | 4 =>
      refine F8_eq (by rw [f_X5_iterNames]) ?_
      exact ih _ _ _ hb
    | 5 =>
      refine F8_eq (by rw [f_X5_iterNames]) ?_
      exact F8_ite (F8_ite (ih _ _ _ (uA_L8 (n7_17 _) hb)) (F8_oP (fun _ => F8_op (k8_y_X7_newSlots__P _ _ _ _ (uA_L8 (n7_17 _) hb)) (fun _ h86 => ih _ _ _ h86)))) (F8_no)
    | 6 =>
      refine F8_eq (by rw [f_X5_iterNames]) ?_
      exact F8_so hb
    | 7 =>
      refine F8_eq (by rw [f_X5_iterNames]) ?_
      exact F8_oP (fun _ => F8_op (k8_y_X7_newPassing__P _ _ _ _ hb) (fun _ h87 => ih _ _ _ h87))
    | 8 =>
      refine F8_eq (by rw [f_X5_iterNames]) ?_
      exact F8_oP (fun _ => F8_ite (ih _ _ _ hb) (ih _ _ _ hb))
    | 9 =>
      refine F8_eq (by rw [f_X5_iterNames]) ?_
      exact ih _ _ _ hb
    | 10 =>
      refine F8_eq (by rw [f_X5_iterNames]) ?_
      exact F8_op (k8_y_X7_tell__P _ _ _ _ hb) (fun _ h88 => F8_oP (fun _ => F8_oP (fun _ => F8_ite (F8_ox (k8_f_X2_advance _ _ _ _ (uA_L8 (n7_10 _) h88)) (fun _ h89 => F8_ite (ih _ _ _ h89) (F8_ite (ih _ _ _ h89) (ih _ _ _ h89)))) (F8_no))))
    | 11 =>
      refine F8_eq (by rw [f_X5_iterNames]) ?_
      exact ih _ _ _ hb
    | 12 =>
      refine F8_eq (by rw [f_X5_iterNames]) ?_
      exact F8_ite (ih _ _ _ hb) (F8_ox (k8_f_X2_advance _ _ _ _ hb) (fun _ h90 => ih _ _ _ h90))
    | 13 =>
      refine F8_eq (by rw [f_X5_iterNames]) ?_
      exact ih _ _ _ hb
    | b + 14 =>
      exact F8_eq (by rw [f_X5_iterNames]) F8_no
theorem k8_f_X5_iterStore : ∀ (k b : Nat) (L : LV) (σ : CS), L8 w σ → F8 w (f_X5_iterStore k b L σ) := by
  intro k
  induction k with
  | zero => intro b L σ _; exact F8_no
  | succ k ih =>
    intro b L σ hb
    match b with
    | 0 =>
      refine F8_eq (by rw [f_X5_iterStore]) ?_
      exact F8_ite (F8_oP (fun _ => F8_ite (ih _ _ _ hb) (ih _ _ _ hb))) (ih _ _ _ hb)
    | 1 =>
      refine F8_eq (by rw [f_X5_iterStore]) ?_
      exact F8_oP (fun _ => F8_ite (ih _ _ _ hb) (ih _ _ _ hb))
    | 2 =>
      refine F8_eq (by rw [f_X5_iterStore]) ?_
      exact ih _ _ _ hb
    | 3 =>
      refine F8_eq (by rw [f_X5_iterStore]) ?_
      exact F8_ox (k8_f_X7_emit__P _ _ _ _ hb) (fun _ h91 => ih _ _ _ h91)
    | 4 =>
      refine F8_eq (by rw [f_X5_iterStore]) ?_
      exact ih _ _ _ hb
    | 5 =>
      refine F8_eq (by rw [f_X5_iterStore]) ?_
      exact F8_ox (k8_f_X7_emit__P _ _ _ _ hb) (fun _ h92 => F8_oP (fun _ => F8_ox (k8_f_X7_word__P _ _ _ _ h92) (fun _ h93 => ih _ _ _ h93)))
    | 6 =>
      refine F8_eq (by rw [f_X5_iterStore]) ?_
      exact F8_so hb
    | b + 7 =>
      exact F8_eq (by rw [f_X5_iterStore]) F8_no
theorem k8_f_X5_mark : ∀ (k b : Nat) (L : LV) (σ : CS), L8 w σ → F8 w (f_X5_mark k b L σ) := by
  intro k
  induction k with
  | zero => intro b L σ _; exact F8_no
  | succ k ih =>
    intro b L σ hb
    match b with
    | 0 =>
      refine F8_eq (by rw [f_X5_mark]) ?_
      exact F8_ox (k8_f_X5_widenMarks _ _ _ _ hb) (fun _ h94 => F8_ite (F8_so (uI_L8 (by decide) (uA_L8 (by decide) h94))) (F8_no))
    | b + 1 =>
      exact F8_eq (by rw [f_X5_mark]) F8_no
theorem k8_t_X5_iters {X : Nat → Nat → Nat → LV → CS → Option RS} (hX : ∀ e m b L (σ : CS), L8 w σ → F8 w (X e m b L σ)) (K d b : Nat) (L : LV) (σ : CS) (hb : L8 w σ) : F8 w (t_X5_iters X K d b L σ) := by
  match b with
  | 0 => exact F8_oP (fun _ => hX _ _ _ _ _ hb)
  | 1 => exact F8_ite (hX _ _ _ _ _ hb) (F8_ite (hX _ _ _ _ _ hb) (F8_oP (fun _ => F8_ite (hX _ _ _ _ _ hb) (F8_oP (fun _ => F8_ite (hX _ _ _ _ _ hb) (F8_no))))))
  | 2 => exact F8_so (uI_L8 (by decide) (uI_L8 (by decide) hb))
  | 3 => exact F8_oP (fun _ => hX _ _ _ _ _ hb)
  | 4 => exact F8_ite (hX _ _ _ _ _ hb) (hX _ _ _ _ _ hb)
  | 5 => exact hX _ _ _ _ _ hb
  | 6 => exact F8_ox (k8_f_X5_iterNames _ _ _ _ hb) (fun _ h95 => F8_oP (fun _ => F8_ox (k8_f_X5_expect _ _ _ _ h95) (fun _ h96 => F8_of (fun _ => F8_ox (hX _ _ _ _ _ h96) (fun _ h97 => F8_ite (hX _ _ _ _ _ h97) (F8_oP (fun _ => F8_op (k8_y_X7_newSlots__P _ _ _ _ h97) (fun _ h98 => hX _ _ _ _ _ h98))))))))
  | 7 => exact F8_oP (fun _ => F8_op (k8_y_X7_newPassing__P _ _ _ _ hb) (fun _ h99 => hX _ _ _ _ _ h99))
  | 8 => exact F8_oP (fun _ => F8_ite (hX _ _ _ _ _ hb) (hX _ _ _ _ _ hb))
  | 9 => exact hX _ _ _ _ _ hb
  | 10 => exact F8_ox (k8_f_X7_emit__P _ _ _ _ hb) (fun _ h100 => F8_oP (fun _ => F8_ite (hX _ _ _ _ _ h100) (hX _ _ _ _ _ h100)))
  | 11 => exact hX _ _ _ _ _ hb
  | 12 => exact F8_ox (k8_f_X7_emit__P _ _ _ _ hb) (fun _ h101 => F8_oP (fun _ => F8_ox (k8_f_X7_word__P _ _ _ _ h101) (fun _ h102 => F8_ite (hX _ _ _ _ _ h102) (hX _ _ _ _ _ h102))))
  | 13 => exact hX _ _ _ _ _ hb
  | 14 => exact F8_ite (hX _ _ _ _ _ hb) (hX _ _ _ _ _ hb)
  | 15 => exact hX _ _ _ _ _ hb
  | 16 => exact F8_ox (k8_f_X5_iterStore _ _ _ _ hb) (fun _ h103 => hX _ _ _ _ _ h103)
  | 17 => exact F8_oP (fun _ => F8_ite (hX _ _ _ _ _ hb) (F8_oP (fun _ => F8_ite (hX _ _ _ _ _ (uA_L8 (n7_10 _) hb)) (F8_no))))
  | 18 => exact F8_ite (hX _ _ _ _ _ hb) (F8_ox (k8_f_X5_mark _ _ _ _ hb) (fun _ h104 => F8_ox (k8_f_X5_mark _ _ _ _ h104) (fun _ h105 => F8_ox (k8_f_X5_mark _ _ _ _ h105) (fun _ h106 => hX _ _ _ _ _ h106))))
  | 19 => exact F8_ite (hX _ _ _ _ _ hb) (hX _ _ _ _ _ hb)
  | 20 => exact hX _ _ _ _ _ hb
  | 21 => exact F8_ite (hX _ _ _ _ _ hb) (F8_ox (k8_f_X2_advance _ _ _ _ hb) (fun _ h107 => hX _ _ _ _ _ h107))
  | 22 => exact hX _ _ _ _ _ hb
  | b + 23 => exact F8_no
theorem k8_t_X5_members {X : Nat → Nat → Nat → LV → CS → Option RS} (hX : ∀ e m b L (σ : CS), L8 w σ → F8 w (X e m b L σ)) (K d b : Nat) (L : LV) (σ : CS) (hb : L8 w σ) : F8 w (t_X5_members X K d b L σ) := by
  match b with
  | 0 => exact hX _ _ _ _ _ hb
  | 1 => exact F8_ite (hX _ _ _ _ _ hb) (F8_ite (F8_ox (k8_f_X2_advance _ _ _ _ hb) (fun _ h108 => F8_ite (F8_oP (fun _ => F8_ox (k8_f_X7_emit__P _ _ _ _ h108) (fun _ h109 => hX _ _ _ _ _ h109))) (hX _ _ _ _ _ h108))) (hX _ _ _ _ _ hb))
  | 2 => exact F8_oP (fun _ => F8_ite (hX _ _ _ _ _ hb) (hX _ _ _ _ _ hb))
  | 3 => exact F8_of (fun _ => F8_ox (hX _ _ _ _ _ hb) (fun _ h110 => F8_ite (hX _ _ _ _ _ h110) (F8_oP (fun _ => F8_ox (k8_f_X7_emit__P _ _ _ _ h110) (fun _ h111 => hX _ _ _ _ _ h111)))))
  | 4 => exact hX _ _ _ _ _ hb
  | 5 => exact F8_ox (k8_f_X7_emit__P _ _ _ _ hb) (fun _ h112 => F8_so h112)
  | 6 => exact F8_ite (F8_ite (F8_ox (k8_f_X2_advance _ _ _ _ hb) (fun _ h113 => F8_of (fun _ => F8_ox (hX _ _ _ _ _ h113) (fun _ h114 => F8_oP (fun _ => F8_ox (k8_f_X7_emit__P _ _ _ _ h114) (fun _ h115 => F8_so h115)))))) (hX _ _ _ _ _ hb)) (hX _ _ _ _ _ hb)
  | 7 => exact hX _ _ _ _ _ hb
  | b + 8 => exact F8_no
theorem k8_y_X7_found__P : ∀ (k b : Nat) (L : LV) (σ : CS), L8 w σ → Y8 w (y_X7_found__P k b L σ) := by
  intro k
  induction k with
  | zero => intro b L σ _; exact Y8_no
  | succ k ih =>
    intro b L σ hb
    match b with
    | 0 =>
      refine Y8_eq (by rw [y_X7_found__P]) ?_
      exact ih _ _ _ hb
    | 1 =>
      refine Y8_eq (by rw [y_X7_found__P]) ?_
      exact Y8_ite (ih _ _ _ hb) (Y8_ite (Y8_ite (Y8_ite (Y8_ite (Y8_ite (Y8_ite (Y8_so hb) (ih _ _ _ hb)) (Y8_no)) (ih _ _ _ hb)) (Y8_no)) (ih _ _ _ hb)) (Y8_no))
    | 2 =>
      refine Y8_eq (by rw [y_X7_found__P]) ?_
      exact Y8_so hb
    | 3 =>
      refine Y8_eq (by rw [y_X7_found__P]) ?_
      exact ih _ _ _ hb
    | b + 4 =>
      exact Y8_eq (by rw [y_X7_found__P]) Y8_no
theorem k8_f_X5_takenName : ∀ (k b : Nat) (L : LV) (σ : CS), L8 w σ → F8 w (f_X5_takenName k b L σ) := by
  intro k
  induction k with
  | zero => intro b L σ _; exact F8_no
  | succ k ih =>
    intro b L σ hb
    match b with
    | 0 =>
      refine F8_eq (by rw [f_X5_takenName]) ?_
      exact F8_ox (k8_f_X2_advance _ _ _ _ hb) (fun _ h116 => F8_oP (fun _ => F8_op (k8_y_X7_found__P _ _ _ _ h116) (fun _ h117 => F8_so h117)))
    | b + 1 =>
      exact F8_eq (by rw [f_X5_takenName]) F8_no
theorem k8_t_X5_named {X : Nat → Nat → Nat → LV → CS → Option RS} (hX : ∀ e m b L (σ : CS), L8 w σ → F8 w (X e m b L σ)) (K d b : Nat) (L : LV) (σ : CS) (hb : L8 w σ) : F8 w (t_X5_named X K d b L σ) := by
  match b with
  | 0 => exact F8_ox (k8_f_X5_takenName _ _ _ _ hb) (fun _ h118 => F8_ite (hX _ _ _ _ _ h118) (hX _ _ _ _ _ h118))
  | 1 => exact F8_oP (fun _ => F8_ite (hX _ _ _ _ _ hb) (F8_no))
  | 2 => exact F8_ite (hX _ _ _ _ _ hb) (F8_ite (F8_ite (hX _ _ _ _ _ hb) (hX _ _ _ _ _ hb)) (hX _ _ _ _ _ hb))
  | 3 => exact F8_ox (k8_f_X5_refuse _ _ _ _ hb) (fun _ h119 => hX _ _ _ _ _ h119)
  | 4 => exact F8_ite (F8_oP (fun _ => F8_ite (F8_of (fun _ => F8_ox (hX _ _ _ _ _ hb) (fun _ h120 => F8_so h120))) (F8_no))) (hX _ _ _ _ _ hb)
  | 5 => exact F8_ite (hX _ _ _ _ _ hb) (hX _ _ _ _ _ hb)
  | 6 => exact hX _ _ _ _ _ hb
  | 7 => exact F8_oP (fun _ => F8_oP (fun _ => F8_ite (F8_ite (hX _ _ _ _ _ hb) (hX _ _ _ _ _ hb)) (F8_no)))
  | 8 => exact hX _ _ _ _ _ hb
  | 9 => exact F8_oP (fun _ => F8_ite (F8_ox (k8_f_X7_emit__P _ _ _ _ hb) (fun _ h121 => F8_so h121)) (F8_no))
  | b + 10 => exact F8_no
theorem k8_t_X5_operand {X : Nat → Nat → Nat → LV → CS → Option RS} (hX : ∀ e m b L (σ : CS), L8 w σ → F8 w (X e m b L σ)) (K d b : Nat) (L : LV) (σ : CS) (hb : L8 w σ) : F8 w (t_X5_operand X K d b L σ) := by
  match b with
  | 0 => exact F8_of (fun _ => F8_ox (hX _ _ _ _ _ hb) (fun _ h122 => hX _ _ _ _ _ h122))
  | 1 => exact F8_ite (hX _ _ _ _ _ hb) (F8_ite (hX _ _ _ _ _ hb) (F8_ite (hX _ _ _ _ _ hb) (hX _ _ _ _ _ hb)))
  | 2 => exact F8_ite (hX _ _ _ _ _ hb) (hX _ _ _ _ _ hb)
  | 3 => exact F8_oP (fun _ => F8_of (fun _ => F8_ox (hX _ _ _ _ _ hb) (fun _ h123 => F8_ox (k8_f_X5_mark _ _ _ _ h123) (fun _ h124 => F8_oP (fun _ => F8_ox (k8_f_X5_mark _ _ _ _ h124) (fun _ h125 => F8_ox (k8_f_X5_mark _ _ _ _ h125) (fun _ h126 => F8_oP (fun _ => F8_ox (k8_f_X7_emit__P _ _ _ _ h126) (fun _ h127 => hX _ _ _ _ _ h127)))))))))
  | 4 => exact hX _ _ _ _ _ hb
  | 5 => exact F8_oP (fun _ => hX _ _ _ _ _ (uI_L8 (by decide) (uI_L8 (by decide) (uI_L8 (by decide) hb))))
  | 6 => exact hX _ _ _ _ _ (uI_L8 (by decide) (uI_L8 (by decide) (uI_L8 (by decide) hb)))
  | 7 => exact F8_so hb
  | b + 8 => exact F8_no
theorem k8_t_X5_part {X : Nat → Nat → Nat → LV → CS → Option RS} (hX : ∀ e m b L (σ : CS), L8 w σ → F8 w (X e m b L σ)) (K d b : Nat) (L : LV) (σ : CS) (hb : L8 w σ) : F8 w (t_X5_part X K d b L σ) := by
  match b with
  | 0 => exact F8_ite (F8_ox (k8_f_X5_opens _ _ _ _ hb) (fun _ h128 => F8_of (fun _ => F8_ox (hX _ _ _ _ _ h128) (fun _ h129 => F8_ox (k8_f_X5_closes _ _ _ _ h129) (fun _ h130 => F8_so h130))))) (hX _ _ _ _ _ hb)
  | 1 => exact F8_ox (k8_f_X5_opens _ _ _ _ hb) (fun _ h131 => F8_of (fun _ => F8_ox (hX _ _ _ _ _ h131) (fun _ h132 => F8_ite (F8_ox (k8_f_X2_advance _ _ _ _ h132) (fun _ h133 => F8_of (fun _ => F8_ox (hX _ _ _ _ _ h133) (fun _ h134 => hX _ _ _ _ _ h134)))) (hX _ _ _ _ _ h132))))
  | 2 => exact F8_ox (k8_f_X5_closes _ _ _ _ hb) (fun _ h135 => F8_so h135)
  | b + 3 => exact F8_no
theorem k8_y_X10_readDigits__z38 : ∀ (k b : Nat) (L : LV) (σ : CS), L8 w σ → Y8 w (y_X10_readDigits__z38 k b L σ) := by
  intro k
  induction k with
  | zero => intro b L σ _; exact Y8_no
  | succ k ih =>
    intro b L σ hb
    match b with
    | 0 =>
      refine Y8_eq (by rw [y_X10_readDigits__z38]) ?_
      exact ih _ _ _ hb
    | 1 =>
      refine Y8_eq (by rw [y_X10_readDigits__z38]) ?_
      exact Y8_ite (ih _ _ _ hb) (Y8_ite (ih _ _ _ hb) (Y8_no))
    | 2 =>
      refine Y8_eq (by rw [y_X10_readDigits__z38]) ?_
      exact Y8_so (uI_L8 (by decide) hb)
    | 3 =>
      refine Y8_eq (by rw [y_X10_readDigits__z38]) ?_
      exact Y8_ite (ih _ _ _ hb) (Y8_ite (Y8_ite (ih _ _ _ (uA_L8 (by decide) hb)) (Y8_no)) (Y8_no))
    | 4 =>
      refine Y8_eq (by rw [y_X10_readDigits__z38]) ?_
      exact Y8_ite (ih _ _ _ hb) (Y8_ite (ih _ _ _ hb) (Y8_ite (ih _ _ _ (uA_L8 (by decide) hb)) (Y8_no)))
    | 5 =>
      refine Y8_eq (by rw [y_X10_readDigits__z38]) ?_
      exact ih _ _ _ hb
    | b + 6 =>
      exact Y8_eq (by rw [y_X10_readDigits__z38]) Y8_no
theorem k8_y_X10_resultLimb : ∀ (k b : Nat) (L : LV) (σ : CS), L8 w σ → Y8 w (y_X10_resultLimb k b L σ) := by
  intro k
  induction k with
  | zero => intro b L σ _; exact Y8_no
  | succ k ih =>
    intro b L σ hb
    match b with
    | 0 =>
      refine Y8_eq (by rw [y_X10_resultLimb]) ?_
      exact Y8_ite (ih _ _ _ hb) (Y8_ite (ih _ _ _ hb) (Y8_ite (ih _ _ _ hb) (Y8_no)))
    | 1 =>
      refine Y8_eq (by rw [y_X10_resultLimb]) ?_
      exact ih _ _ _ hb
    | 2 =>
      refine Y8_eq (by rw [y_X10_resultLimb]) ?_
      exact Y8_so hb
    | b + 3 =>
      exact Y8_eq (by rw [y_X10_resultLimb]) Y8_no
theorem k8_y_X10_small : ∀ (k b : Nat) (L : LV) (σ : CS), L8 w σ → Y8 w (y_X10_small k b L σ) := by
  intro k
  induction k with
  | zero => intro b L σ _; exact Y8_no
  | succ k ih =>
    intro b L σ hb
    match b with
    | 0 =>
      refine Y8_eq (by rw [y_X10_small]) ?_
      exact Y8_so hb
    | b + 1 =>
      exact Y8_eq (by rw [y_X10_small]) Y8_no
theorem k8_y_X1_header : ∀ (k b : Nat) (L : LV) (σ : CS), L8 w σ → Y8 w (y_X1_header k b L σ) := by
  intro k
  induction k with
  | zero => intro b L σ _; exact Y8_no
  | succ k ih =>
    intro b L σ hb
    match b with
    | 0 =>
      refine Y8_eq (by rw [y_X1_header]) ?_
      exact Y8_so hb
    | b + 1 =>
      exact Y8_eq (by rw [y_X1_header]) Y8_no
theorem k8_f_X5_number : ∀ (k b : Nat) (L : LV) (σ : CS), L8 w σ → F8 w (f_X5_number k b L σ) := by
  intro k
  induction k with
  | zero => intro b L σ _; exact F8_no
  | succ k ih =>
    intro b L σ hb
    match b with
    | 0 =>
      refine F8_eq (by rw [f_X5_number]) ?_
      exact F8_op (k8_y_X10_readDigits__z38 _ _ _ _ hb) (fun _ h136 => F8_op (k8_y_X10_resultLimb _ _ _ _ h136) (fun _ h137 => F8_ite (ih _ _ _ h137) (F8_ite (F8_ite (ih _ _ _ h137) (F8_ite (ih _ _ _ h137) (ih _ _ _ h137))) (ih _ _ _ h137))))
    | 1 =>
      refine F8_eq (by rw [f_X5_number]) ?_
      exact F8_oP (fun _ => F8_ox (k8_f_X7_emit__P _ _ _ _ hb) (fun _ h138 => F8_oP (fun _ => F8_op (k8_y_X10_small _ _ _ _ h138) (fun _ h139 => F8_ox (k8_f_X7_word__P _ _ _ _ h139) (fun _ h140 => ih _ _ _ h140)))))
    | 2 =>
      refine F8_eq (by rw [f_X5_number]) ?_
      exact F8_oP (fun _ => F8_ox (k8_f_X7_emit__P _ _ _ _ hb) (fun _ h141 => F8_oP (fun _ => F8_op (k8_y_X1_header _ _ _ _ h141) (fun _ h142 => F8_ox (k8_f_X7_word__P _ _ _ _ h142) (fun _ h143 => ih _ _ _ h143)))))
    | 3 =>
      refine F8_eq (by rw [f_X5_number]) ?_
      exact F8_ox (k8_f_X2_advance _ _ _ _ hb) (fun _ h144 => F8_so h144)
    | 4 =>
      refine F8_eq (by rw [f_X5_number]) ?_
      exact F8_ite (ih _ _ _ hb) (F8_oP (fun _ => F8_op (k8_y_X10_resultLimb _ _ _ _ hb) (fun _ h145 => F8_ox (k8_f_X7_word__P _ _ _ _ h145) (fun _ h146 => ih _ _ _ h146))))
    | b + 5 =>
      exact F8_eq (by rw [f_X5_number]) F8_no
theorem k8_f_X5_string : ∀ (k b : Nat) (L : LV) (σ : CS), L8 w σ → F8 w (f_X5_string k b L σ) := by
  intro k
  induction k with
  | zero => intro b L σ _; exact F8_no
  | succ k ih =>
    intro b L σ hb
    match b with
    | 0 =>
      refine F8_eq (by rw [f_X5_string]) ?_
      exact F8_ite (ih _ _ _ hb) (F8_oP (fun _ => F8_ox (k8_f_X7_emit__P _ _ _ _ hb) (fun _ h147 => F8_oP (fun _ => F8_ite (ih _ _ _ h147) (ih _ _ _ h147)))))
    | 1 =>
      refine F8_eq (by rw [f_X5_string]) ?_
      exact F8_oP (fun _ => F8_ox (k8_f_X7_emit__P _ _ _ _ hb) (fun _ h148 => F8_oP (fun _ => F8_op (k8_y_X1_header _ _ _ _ h148) (fun _ h149 => F8_ox (k8_f_X7_word__P _ _ _ _ h149) (fun _ h150 => ih _ _ _ h150)))))
    | 2 =>
      refine F8_eq (by rw [f_X5_string]) ?_
      exact F8_ite (ih _ _ _ hb) (F8_no)
    | 3 =>
      refine F8_eq (by rw [f_X5_string]) ?_
      exact F8_ox (k8_f_X7_word__P _ _ _ _ hb) (fun _ h151 => ih _ _ _ h151)
    | 4 =>
      refine F8_eq (by rw [f_X5_string]) ?_
      exact F8_ite (ih _ _ _ hb) (F8_oP (fun _ => F8_ox (k8_f_X7_word__P _ _ _ _ hb) (fun _ h152 => ih _ _ _ h152)))
    | 5 =>
      refine F8_eq (by rw [f_X5_string]) ?_
      exact F8_ox (k8_f_X2_advance _ _ _ _ hb) (fun _ h153 => F8_so h153)
    | 6 =>
      refine F8_eq (by rw [f_X5_string]) ?_
      exact ih _ _ _ hb
    | 7 =>
      refine F8_eq (by rw [f_X5_string]) ?_
      exact F8_ite (ih _ _ _ hb) (F8_oP (fun _ => F8_ite (F8_ite (F8_ite (ih _ _ _ (uA_L8 (n7_0 _) hb)) (F8_no)) (F8_no)) (F8_no)))
    | b + 8 =>
      exact F8_eq (by rw [f_X5_string]) F8_no
theorem k8_f_X5_push : ∀ (k b : Nat) (L : LV) (σ : CS), L8 w σ → F8 w (f_X5_push k b L σ) := by
  intro k
  induction k with
  | zero => intro b L σ _; exact F8_no
  | succ k ih =>
    intro b L σ hb
    match b with
    | 0 =>
      refine F8_eq (by rw [f_X5_push]) ?_
      exact F8_oP (fun _ => F8_ox (k8_f_X7_emit__P _ _ _ _ hb) (fun _ h154 => F8_oP (fun _ => F8_ox (k8_f_X7_word__P _ _ _ _ h154) (fun _ h155 => F8_so h155))))
    | b + 1 =>
      exact F8_eq (by rw [f_X5_push]) F8_no
theorem k8_y_X11_truth : ∀ (k b : Nat) (L : LV) (σ : CS), L8 w σ → Y8 w (y_X11_truth k b L σ) := by
  intro k
  induction k with
  | zero => intro b L σ _; exact Y8_no
  | succ k ih =>
    intro b L σ hb
    match b with
    | 0 =>
      refine Y8_eq (by rw [y_X11_truth]) ?_
      exact Y8_ite (ih _ _ _ hb) (ih _ _ _ hb)
    | 1 =>
      refine Y8_eq (by rw [y_X11_truth]) ?_
      exact ih _ _ _ hb
    | 2 =>
      refine Y8_eq (by rw [y_X11_truth]) ?_
      exact Y8_so hb
    | b + 3 =>
      exact Y8_eq (by rw [y_X11_truth]) Y8_no
theorem k8_t_X5_primary {X : Nat → Nat → Nat → LV → CS → Option RS} (hX : ∀ e m b L (σ : CS), L8 w σ → F8 w (X e m b L σ)) (K d b : Nat) (L : LV) (σ : CS) (hb : L8 w σ) : F8 w (t_X5_primary X K d b L σ) := by
  match b with
  | 0 => exact F8_ite (hX _ _ _ _ _ hb) (F8_ite (hX _ _ _ _ _ hb) (F8_ite (hX _ _ _ _ _ hb) (F8_ite (hX _ _ _ _ _ hb) (F8_ite (hX _ _ _ _ _ hb) (F8_ite (hX _ _ _ _ _ hb) (F8_ite (hX _ _ _ _ _ hb) (F8_ite (hX _ _ _ _ _ hb) (F8_ite (hX _ _ _ _ _ hb) (F8_ite (hX _ _ _ _ _ hb) (F8_ite (hX _ _ _ _ _ hb) (F8_ite (hX _ _ _ _ _ hb) (hX _ _ _ _ _ hb))))))))))))
  | 1 => exact F8_of (fun _ => F8_ox (hX _ _ _ _ _ hb) (fun _ h156 => F8_so h156))
  | 2 => exact F8_ox (k8_f_X5_number _ _ _ _ hb) (fun _ h157 => hX _ _ _ _ _ h157)
  | 3 => exact F8_ox (k8_f_X5_string _ _ _ _ hb) (fun _ h158 => hX _ _ _ _ _ h158)
  | 4 => exact F8_ox (k8_f_X5_opens _ _ _ _ hb) (fun _ h159 => F8_of (fun _ => F8_ox (hX _ _ _ _ _ h159) (fun _ h160 => F8_ox (k8_f_X5_closes _ _ _ _ h160) (fun _ h161 => hX _ _ _ _ _ h161))))
  | 5 => exact F8_of (fun _ => F8_ox (hX _ _ _ _ _ hb) (fun _ h162 => hX _ _ _ _ _ h162))
  | 6 => exact F8_of (fun _ => F8_ox (hX _ _ _ _ _ hb) (fun _ h163 => hX _ _ _ _ _ h163))
  | 7 => exact F8_of (fun _ => F8_ox (hX _ _ _ _ _ hb) (fun _ h164 => hX _ _ _ _ _ h164))
  | 8 => exact F8_ite (hX _ _ _ _ _ hb) (hX _ _ _ _ _ hb)
  | 9 => exact F8_of (fun _ => F8_ox (hX _ _ _ _ _ hb) (fun _ h165 => hX _ _ _ _ _ h165))
  | 10 => exact F8_of (fun _ => F8_ox (hX _ _ _ _ _ hb) (fun _ h166 => hX _ _ _ _ _ h166))
  | 11 => exact F8_so hb
  | 12 => exact F8_ite (hX _ _ _ _ _ hb) (hX _ _ _ _ _ hb)
  | 13 => exact F8_ox (k8_f_X5_push _ _ _ _ hb) (fun _ h167 => F8_ox (k8_f_X2_advance _ _ _ _ h167) (fun _ h168 => hX _ _ _ _ _ h168))
  | 14 => exact hX _ _ _ _ _ hb
  | 15 => exact F8_op (k8_y_X11_truth _ _ _ _ hb) (fun _ h169 => hX _ _ _ _ _ h169)
  | b + 16 => exact F8_no
theorem k8_t_X5_quantifier {X : Nat → Nat → Nat → LV → CS → Option RS} (hX : ∀ e m b L (σ : CS), L8 w σ → F8 w (X e m b L σ)) (K d b : Nat) (L : LV) (σ : CS) (hb : L8 w σ) : F8 w (t_X5_quantifier X K d b L σ) := by
  match b with
  | 0 => exact F8_ite (hX _ _ _ _ _ hb) (hX _ _ _ _ _ hb)
  | 1 => exact hX _ _ _ _ _ hb
  | 2 => exact F8_ox (k8_f_X5_opens _ _ _ _ hb) (fun _ h170 => F8_oP (fun _ => F8_oP (fun _ => F8_of (fun _ => F8_ox (hX _ _ _ _ _ h170) (fun _ h171 => F8_ox (k8_f_X5_expect _ _ _ _ h171) (fun _ h172 => F8_of (fun _ => F8_ox (hX _ _ _ _ _ h172) (fun _ h173 => F8_oP (fun _ => F8_oP (fun _ => F8_ite (hX _ _ _ _ _ (uI_L8 (by decide) h173)) (hX _ _ _ _ _ (uI_L8 (by decide) h173))))))))))))
  | 3 => exact hX _ _ _ _ _ hb
  | 4 => exact F8_ox (k8_f_X7_emit__P _ _ _ _ hb) (fun _ h174 => F8_op (k8_y_X7_aim__P _ _ _ _ h174) (fun _ h175 => F8_op (k8_y_X11_truth _ _ _ _ h175) (fun _ h176 => F8_ox (k8_f_X5_push _ _ _ _ h176) (fun _ h177 => F8_oP (fun _ => F8_ox (k8_f_X7_emit__P _ _ _ _ h177) (fun _ h178 => F8_oP (fun _ => F8_oP (fun _ => F8_ite (F8_ite (hX _ _ _ _ _ (uA_L8 (n7_0 _) h178)) (hX _ _ _ _ _ (uA_L8 (n7_0 _) h178))) (F8_no)))))))))
  | 5 => exact hX _ _ _ _ _ hb
  | 6 => exact F8_op (k8_y_X11_truth _ _ _ _ hb) (fun _ h179 => F8_ox (k8_f_X5_push _ _ _ _ h179) (fun _ h180 => F8_oP (fun _ => F8_oP (fun _ => F8_op (k8_y_X7_aim__P _ _ _ _ h180) (fun _ h181 => F8_ox (k8_f_X5_clear _ _ _ _ h181) (fun _ h182 => F8_oP (fun _ => F8_ox (k8_f_X7_emit__P _ _ _ _ h182) (fun _ h183 => F8_oP (fun _ => F8_so (uI_L8 (fP_8 _ (by decide) (by decide) (by decide)) h183))))))))))
  | b + 7 => exact F8_no
theorem k8_t_X5_row {X : Nat → Nat → Nat → LV → CS → Option RS} (hX : ∀ e m b L (σ : CS), L8 w σ → F8 w (X e m b L σ)) (K d b : Nat) (L : LV) (σ : CS) (hb : L8 w σ) : F8 w (t_X5_row X K d b L σ) := by
  match b with
  | 0 => exact F8_ox (k8_f_X5_opens _ _ _ _ hb) (fun _ h184 => F8_ite (F8_of (fun _ => F8_ox (hX _ _ _ _ _ h184) (fun _ h185 => hX _ _ _ _ _ h185))) (hX _ _ _ _ _ h184))
  | 1 => exact F8_ite (F8_oP (fun _ => F8_ox (k8_f_X7_emit__P _ _ _ _ hb) (fun _ h186 => hX _ _ _ _ _ h186))) (hX _ _ _ _ _ hb)
  | 2 => exact F8_ox (k8_f_X5_closes _ _ _ _ hb) (fun _ h187 => F8_so h187)
  | 3 => exact F8_of (fun _ => F8_ox (hX _ _ _ _ _ hb) (fun _ h188 => F8_ite (F8_ox (k8_f_X2_advance _ _ _ _ h188) (fun _ h189 => F8_of (fun _ => F8_ox (hX _ _ _ _ _ h189) (fun _ h190 => F8_oP (fun _ => F8_ox (k8_f_X7_emit__P _ _ _ _ h190) (fun _ h191 => hX _ _ _ _ _ h191)))))) (hX _ _ _ _ _ h188)))
  | 4 => exact F8_of (fun _ => F8_ox (hX _ _ _ _ _ hb) (fun _ h192 => hX _ _ _ _ _ h192))
  | b + 5 => exact F8_no
theorem k8_y_X5_wordOp : ∀ (k b : Nat) (L : LV) (σ : CS), L8 w σ → Y8 w (y_X5_wordOp k b L σ) := by
  intro k
  induction k with
  | zero => intro b L σ _; exact Y8_no
  | succ k ih =>
    intro b L σ hb
    match b with
    | 0 =>
      refine Y8_eq (by rw [y_X5_wordOp]) ?_
      exact Y8_ite (ih _ _ _ hb) (Y8_ite (ih _ _ _ hb) (Y8_so hb))
    | 1 =>
      refine Y8_eq (by rw [y_X5_wordOp]) ?_
      exact Y8_ite (ih _ _ _ hb) (ih _ _ _ hb)
    | 2 =>
      refine Y8_eq (by rw [y_X5_wordOp]) ?_
      exact ih _ _ _ hb
    | 3 =>
      refine Y8_eq (by rw [y_X5_wordOp]) ?_
      exact Y8_so hb
    | b + 4 =>
      exact Y8_eq (by rw [y_X5_wordOp]) Y8_no
theorem k8_t_X5_word {X : Nat → Nat → Nat → LV → CS → Option RS} (hX : ∀ e m b L (σ : CS), L8 w σ → F8 w (X e m b L σ)) (K d b : Nat) (L : LV) (σ : CS) (hb : L8 w σ) : F8 w (t_X5_word X K d b L σ) := by
  match b with
  | 0 => exact F8_ite (F8_ite (hX _ _ _ _ _ hb) (hX _ _ _ _ _ hb)) (hX _ _ _ _ _ hb)
  | 1 => exact hX _ _ _ _ _ hb
  | 2 => exact F8_ite (F8_ite (F8_ox (k8_f_X2_advance _ _ _ _ hb) (fun _ h193 => F8_oP (fun _ => F8_ox (k8_f_X7_emit__P _ _ _ _ h193) (fun _ h194 => F8_so h194)))) (hX _ _ _ _ _ hb)) (hX _ _ _ _ _ hb)
  | 3 => exact F8_op (k8_y_X5_wordOp _ _ _ _ hb) (fun _ h195 => F8_ite (F8_ite (F8_ox (k8_f_X5_refuse _ _ _ _ h195) (fun _ h196 => hX _ _ _ _ _ h196)) (hX _ _ _ _ _ h195)) (hX _ _ _ _ _ h195))
  | 4 => exact F8_ox (k8_f_X2_advance _ _ _ _ hb) (fun _ h197 => F8_ox (k8_f_X5_want _ _ _ _ h197) (fun _ h198 => F8_ox (k8_f_X5_opens _ _ _ _ h198) (fun _ h199 => F8_of (fun _ => F8_ox (hX _ _ _ _ _ h199) (fun _ h200 => F8_ox (k8_f_X5_closes _ _ _ _ h200) (fun _ h201 => F8_oP (fun _ => F8_ite (hX _ _ _ _ _ h201) (hX _ _ _ _ _ h201))))))))
  | 5 => exact hX _ _ _ _ _ hb
  | 6 => exact F8_ox (k8_f_X7_emit__P _ _ _ _ hb) (fun _ h202 => F8_so h202)
  | b + 7 => exact F8_no
theorem k8_f_F2 : ∀ (k d m b : Nat) (L : LV) (σ : CS), L8 w σ → F8 w (f_F2 k d m b L σ) := by
  intro k
  induction k with
  | zero => intro d m b L σ _; exact F8_no
  | succ k ih =>
    intro d m b L σ hb
    match m with
    | 0 => exact k8_t_X5_choice ih k d b L σ hb
    | 1 => exact k8_t_X5_exp ih k d b L σ hb
    | 2 => exact k8_t_X5_exps ih k d b L σ hb
    | 3 => exact k8_t_X5_former ih k d b L σ hb
    | 4 => exact k8_t_X5_functionCall ih k d b L σ hb
    | 5 => exact k8_t_X5_iters ih k d b L σ hb
    | 6 => exact k8_t_X5_members ih k d b L σ hb
    | 7 => exact k8_t_X5_named ih k d b L σ hb
    | 8 => exact k8_t_X5_operand ih k d b L σ hb
    | 9 => exact k8_t_X5_part ih k d b L σ hb
    | 10 => exact k8_t_X5_primary ih k d b L σ hb
    | 11 => exact k8_t_X5_quantifier ih k d b L σ hb
    | 12 => exact k8_t_X5_row ih k d b L σ hb
    | 13 => exact k8_t_X5_word ih k d b L σ hb
    | m + 14 => exact F8_no
theorem k8_f_X5_exp (k b : Nat) (L : LV) (σ : CS) (hb : L8 w σ) : F8 w (f_X5_exp k b L σ) := k8_f_F2 k 400 1 b L σ hb
theorem k8_y_X5_noteFault : ∀ (k b : Nat) (L : LV) (σ : CS), L8 w σ → Y8 w (y_X5_noteFault k b L σ) := by
  intro k
  induction k with
  | zero => intro b L σ _; exact Y8_no
  | succ k ih =>
    intro b L σ hb
    match b with
    | 0 =>
      refine Y8_eq (by rw [y_X5_noteFault]) ?_
      exact Y8_ite (ih _ _ _ (uI_L8 (by decide) (uI_L8 (by decide) hb))) (ih _ _ _ hb)
    | 1 =>
      refine Y8_eq (by rw [y_X5_noteFault]) ?_
      exact Y8_so hb
    | b + 2 =>
      exact Y8_eq (by rw [y_X5_noteFault]) Y8_no
theorem k8_f_X2_widen : ∀ (k b : Nat) (L : LV) (σ : CS), L8 w σ → F8 w (f_X2_widen k b L σ) := by
  intro k
  induction k with
  | zero => intro b L σ _; exact F8_no
  | succ k ih =>
    intro b L σ hb
    match b with
    | 0 =>
      refine F8_eq (by rw [f_X2_widen]) ?_
      exact F8_ite (ih _ _ _ hb) (ih _ _ _ hb)
    | 1 =>
      refine F8_eq (by rw [f_X2_widen]) ?_
      exact ih _ _ _ hb
    | 2 =>
      refine F8_eq (by rw [f_X2_widen]) ?_
      exact F8_ite (F8_ite (F8_ite (F8_ad (ih _ _ _ (uZ_L8 (by decide) hb))) (F8_no)) (ih _ _ _ hb)) (F8_no)
    | 3 =>
      refine F8_eq (by rw [f_X2_widen]) ?_
      exact F8_so hb
    | b + 4 =>
      exact F8_eq (by rw [f_X2_widen]) F8_no
theorem k8_f_X2_rewind : ∀ (k b : Nat) (L : LV) (σ : CS), L8 w σ → F8 w (f_X2_rewind k b L σ) := by
  intro k
  induction k with
  | zero => intro b L σ _; exact F8_no
  | succ k ih =>
    intro b L σ hb
    match b with
    | 0 =>
      refine F8_eq (by rw [f_X2_rewind]) ?_
      exact F8_ox (k8_f_X2_widen _ _ _ _ hb) (fun _ h203 => F8_ite (F8_ite (ih _ _ _ (uI_L8 (by decide) (uA_L8 (by decide) (uA_L8 (by decide) h203)))) (F8_no)) (F8_no))
    | 1 =>
      refine F8_eq (by rw [f_X2_rewind]) ?_
      exact F8_so hb
    | b + 2 =>
      exact F8_eq (by rw [f_X2_rewind]) F8_no
end K8D
section K8E
variable {w : K8t} {σ : CS} {b : Bool}
/-- the counts alone -/
def E8 (w : K8t) (x : Option RS) : Prop := ∀ r, x = some r → k8w r.2.1 = w
def D8 (w : K8t) (x : Option (Int32 × CS)) : Prop := ∀ r, x = some r → k8w r.2 = w
theorem E8_F {x : Option RS} (h : F8 w x) : E8 w x := fun r e => (h r e).2
theorem E8_K {x : Option RS} (h : Ef (k7w σ) x) (hw : k8w σ = w) : E8 w x := fun r e => (congrArg (fun y : K7t => (y.2.1, y.2.2.1, y.2.2.2.1, y.2.2.2.2.1, y.2.2.2.2.2.1, y.2.2.2.2.2.2.1, y.2.2.2.2.2.2.2)) (h r e)).trans hw
theorem D8_K {x : Option (Int32 × CS)} (h : Ey (k7w σ) x) (hw : k8w σ = w) : D8 w x := fun r e => (congrArg (fun y : K7t => (y.2.1, y.2.2.1, y.2.2.2.1, y.2.2.2.2.1, y.2.2.2.2.2.1, y.2.2.2.2.2.2.1, y.2.2.2.2.2.2.2)) (h r e)).trans hw
theorem E8_no : E8 w none := fun _ h => by cases h
theorem E8_so {a : Nat × Int32} {q : Nat × Nat} (h : k8w σ = w) : E8 w (some (a, σ, q)) := fun _ e => by cases e; exact h
theorem E8_eq {a a' : Option RS} (h1 : a = a') (h : E8 w a') : E8 w a := by rw [h1]; exact h
theorem E8_ite {c : Prop} {_ : Decidable c} {a b : Option RS} (h1 : E8 w a) (h2 : E8 w b) : E8 w (if c then a else b) := by
  by_cases h : c
  · rw [if_pos h]; exact h1
  · rw [if_neg h]; exact h2
theorem E8_ad {q : Nat × Nat} {y : Option RS} (h : E8 w y) : E8 w (adR q y) := by
  intro r hr
  cases y with
  | none => cases hr
  | some s =>
    have e : some (s.1, s.2.1, (q.1 + s.2.2.1, q.2 + s.2.2.2)) = some r := hr
    cases e
    exact h s rfl
theorem E8_ox {x : Option RS} {f : RS → Option RS} (h1 : E8 w x) (h2 : ∀ r, k8w r.2.1 = w → E8 w (f r)) : E8 w (ox x f) := by
  cases x with
  | none => exact E8_no
  | some s =>
    have z := h1 s rfl
    show E8 w (if s.1.1 = 0 then adR s.2.2 (f s) else some s)
    refine E8_ite (E8_ad (h2 s z)) (fun r e => ?_)
    cases e
    exact z
theorem E8_op {x : Option (Int32 × CS)} {f : Int32 × CS → Option RS} (h1 : D8 w x) (h2 : ∀ r, k8w r.2 = w → E8 w (f r)) : E8 w (Jvm.Pilot.CSetHouseLaw_law_r1811_42fba4.op x f) := by
  intro r hr
  cases x with
  | none => cases hr
  | some s => exact h2 s (h1 s rfl) r hr
/-- behind begin the unit is 41 -/
theorem E8_oxb {x : Option RS} {f : RS → Option RS} (h1 : F8 w x) (h2 : ∀ r, L8 w r.2.1 → E8 w (f r)) : E8 w (ox x f) := by
  cases x with
  | none => exact E8_no
  | some s =>
    have z := h1 s rfl
    show E8 w (if s.1.1 = 0 then adR s.2.2 (f s) else some s)
    refine E8_ite (E8_ad (h2 s z)) (fun r e => ?_)
    cases e
    exact z.2
theorem k8_openUnit {L : LV} (hL : L.1 1 = 41) : ∀ (k m : Nat) (σ : CS), k8w σ = w → D8 w (y_X7_openUnit__P k m L σ) := by
  intro k
  induction k with
  | zero => intro m σ _ r h; cases h
  | succ k ih =>
    intro m σ hb r h
    have hi : ¬ (L.1 1).toNatClampNeg = 0 := by rw [hL]; decide
    have i1 : ¬ (L.1 1 < 0 ∨ 42 ≤ (L.1 1).toNatClampNeg) := by rw [hL]; decide
    match m with
    | 0 =>
      rw [y_X7_openUnit__P, if_pos i1, if_pos i1, if_pos i1] at h
      exact ih _ _ (((uA_k8 (n7_15 _)).trans ((uA_k8 (n7_14 _)).trans (uA_k8 (n7_13 _)))).trans hb) r h
    | 1 =>
      rw [y_X7_openUnit__P, if_pos i1, if_pos i1, if_pos i1] at h
      exact ih _ _ (((uA_k8 (n7_18 _)).trans ((uA_k8 (n7_17 _)).trans (uA16_k8 hi))).trans hb) r h
    | 2 =>
      rw [y_X7_openUnit__P] at h
      cases h
      exact (uI_k8 (fP_8 _ (by decide) (by decide) (by decide)).2).trans hb
    | m + 3 =>
      rw [y_X7_openUnit__P] at h
      cases h
theorem k8_begin {L : LV} (hL : L.1 2 = 41) (hb : k8w σ = w) : ∀ k : Nat, F8 w (f_X5_begin__P k 0 L σ) := by
  intro k r h
  match k with
  | 0 => cases h
  | 1 => rw [f_X5_begin__P] at h; cases h
  | 2 => rw [f_X5_begin__P, f_X5_begin__P] at h; cases h
  | 3 => rw [f_X5_begin__P, f_X5_begin__P, f_X5_begin__P] at h; cases h
  | k + 4 =>
    rw [f_X5_begin__P, f_X5_begin__P, f_X5_begin__P, f_X5_begin__P] at h
    have h0 : L8 w (uI (uI (uPp σ (some (L.2.2.1 1))) 4003 (L.1 2)) 4004 (L.1 3)) := by
      refine ⟨?_, ?_⟩
      · rw [uI_o (by decide), uI_s]; exact hL
      · have e := (uI_k8 (σ := uI (uPp σ (some (L.2.2.1 1))) 4003 (L.1 2)) (j := 4004) (x := L.1 3) (by decide)).trans (uI_k8 (σ := uPp σ (some (L.2.2.1 1))) (j := 4003) (x := L.1 2) (by decide))
        exact e.trans hb
    have h1 := uI_L8 (j := 4016) (x := -1) (by decide) (uI_L8 (j := 4013) (x := 0) (by decide) (uI_L8 (j := 4011) (x := 0) (by decide) (uI_L8 (j := 4009) (x := 0) (by decide) (uI_L8 (j := 4008) (x := -1) (by decide) (uI_L8 (j := 4007) (x := 0) (by decide) (uI_L8 (j := 4006) (x := 0) (by decide) (uI_L8 (j := 4005) (x := 0) (by decide) h0)))))))
    exact F8_ox (k8_f_X2_rewind _ _ _ _ h1) (fun _ h2 => F8_so h2) r h

theorem k8_readExp : ∀ (k m : Nat) (L : LV) (σ : CS), k8w σ = w → E8 w (f_X5_readExp__P k m L σ) := by
  intro k m L σ hb
  match k, m with
  | 0, _ => exact fun r h => by cases h
  | k + 1, 0 =>
    refine E8_eq (by rw [f_X5_readExp__P]) ?_
    exact E8_op (k8_openUnit rfl _ _ _ hb) (fun r1 h1 => E8_oxb (k8_begin rfl h1 _) (fun r2 h2 => E8_F (F8_oh (k8_f_X2_advance _ _ _ _ h2) (fun _ h204 => F8_oh (k8_f_X5_exp _ _ _ _ h204) (fun _ h205 => F8_oh (k8_f_X5_want _ _ _ _ h205) (fun _ h206 => F8_oh (k8_f_X7_emit__P _ _ _ _ h206) (fun _ h207 => F8_so h207) (fun _ h208 => F8_op (k8_y_X5_noteFault _ _ _ _ h208) (fun _ h209 => F8_so (uI_L8 (fP_8 _ (by decide) (by decide) (by decide)) (uI_L8 (fP_8 _ (by decide) (by decide) (by decide)) h209))))) (fun _ h210 => F8_op (k8_y_X5_noteFault _ _ _ _ h210) (fun _ h211 => F8_so (uI_L8 (fP_8 _ (by decide) (by decide) (by decide)) (uI_L8 (fP_8 _ (by decide) (by decide) (by decide)) h211))))) (fun _ h212 => F8_op (k8_y_X5_noteFault _ _ _ _ h212) (fun _ h213 => F8_so (uI_L8 (fP_8 _ (by decide) (by decide) (by decide)) (uI_L8 (fP_8 _ (by decide) (by decide) (by decide)) h213))))) (fun _ h214 => F8_op (k8_y_X5_noteFault _ _ _ _ h214) (fun _ h215 => F8_so (uI_L8 (fP_8 _ (by decide) (by decide) (by decide)) (uI_L8 (fP_8 _ (by decide) (by decide) (by decide)) h215)))))))
  | k + 1, m + 1 => exact E8_eq (by rw [f_X5_readExp__P]) E8_no
theorem k8_7512 {x : Int32} : k8w (uI σ 7512 x) = k8w σ := uI_k8 (by decide)
theorem k8_fP1 {x : Int32} : k8w (uI σ (fP b 1) x) = k8w σ := uI_k8 (fP_8 b (by decide) (by decide) (by decide)).2
theorem k8_view : ∀ (k m : Nat) (L : LV) (σ : CS), k8w σ = w → E8 w (f_X11_view k m L σ) := by
  intro k
  induction k with
  | zero => intro m L σ _ r h; cases h
  | succ k ih =>
    intro m L σ hb
    match m with
    | 0 =>
      refine E8_eq (by rw [f_X11_view]) ?_
      exact E8_ite (E8_so hb) (ih _ _ _ hb)
    | 1 =>
      refine E8_eq (by rw [f_X11_view]) ?_
      exact E8_ite (ih _ _ _ hb) (E8_so hb)
    | 2 =>
      refine E8_eq (by rw [f_X11_view]) ?_
      refine E8_ox (k8_readExp _ _ _ _ hb) (fun r1 h1 => ?_)
      have e : k8w (uI (uI r1.2.1 3701 0) 7512 ((uI r1.2.1 3701 0).1 4006)) = w := (k8_7512.trans (uI_k8 (by decide))).trans h1
      exact E8_ite (E8_so e) (ih _ _ _ e)
    | 3 =>
      refine E8_eq (by rw [f_X11_view]) ?_
      refine E8_ite (E8_ite (E8_ite (ih _ _ _ ?_) E8_no) E8_no) E8_no
      exact ((uA_k8 (by decide)).trans ((uA_k8 (by decide)).trans (uA_k8 (by decide)))).trans hb
    | 4 =>
      refine E8_eq (by rw [f_X11_view]) ?_
      refine E8_ite (E8_ite (ih _ _ _ ?_) E8_no) E8_no
      exact ((uI_k8 (by decide)).trans ((uA_k8 (by decide)).trans (uA_k8 (by decide)))).trans hb
    | 5 =>
      refine E8_eq (by rw [f_X11_view]) ?_
      exact E8_so hb
    | m + 6 => exact E8_eq (by rw [f_X11_view]) E8_no
theorem k8_work : ∀ (k m : Nat) (L : LV) (σ : CS), k8w σ = w → E8 w (f_X11_work k m L σ) := by
  intro k
  induction k with
  | zero => intro m L σ _ r h; cases h
  | succ k ih =>
    intro m L σ hb
    match m with
    | 0 =>
      refine E8_eq (by rw [f_X11_work]) ?_
      refine E8_ox (E8_K (k7_f_X11_wantRun _ _ _ _ rfl) hb) (fun r1 h1 => E8_ox (k8_readExp _ _ _ _ h1) (fun r2 h2 => ih _ _ _ ?_))
      exact ((uI_k8 (by decide)).trans (k8_7512.trans (uI_k8 (by decide)))).trans h2
    | 1 =>
      refine E8_eq (by rw [f_X11_work]) ?_
      exact E8_ite (E8_so hb) (ih _ _ _ hb)
    | 2 =>
      refine E8_eq (by rw [f_X11_work]) ?_
      refine E8_ox (E8_K (k7_f_X3_evaluate _ _ _ _ rfl) hb) (fun r1 h1 => E8_op (D8_K (k7_y_X11_isError _ _ _ _ rfl) (((uI_k8 (by decide)).trans k8_fP1).trans h1)) (fun r2 h2 => ih _ _ _ h2))
    | 3 =>
      refine E8_eq (by rw [f_X11_work]) ?_
      exact E8_ite (ih _ _ _ hb) (ih _ _ _ hb)
    | 4 =>
      refine E8_eq (by rw [f_X11_work]) ?_
      exact E8_ox (E8_K (k7_f_X11_showValue _ _ _ _ rfl) hb) (fun r1 h1 => ih _ _ _ h1)
    | 5 =>
      refine E8_eq (by rw [f_X11_work]) ?_
      exact E8_so hb
    | m + 6 => exact E8_eq (by rw [f_X11_work]) E8_no
end K8E
end JnS577
