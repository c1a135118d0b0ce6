/-! The class: bytes stay bytes (made by kb.py). -/
def BYr (f : Nat → Int32) : Prop := ∀ i, fits .byte (.int (f i)) = true
/-- the printer's text, what is put out, what is shown; and who runs has no trouble, nor, where P, has it ended -/
def BY (P : Prop) (σ : CS) : Prop := BYr (σ.2.2.1 13) ∧ BYr (σ.2.2.1 22) ∧ BYr (σ.2.2.1 66) ∧ sN σ 22 ≤ 60000 ∧ sN σ 66 ≤ 10400 ∧ (σ.1 1812 = 0 → σ.1 1813 = 0 ∧ (P → σ.1 1907 = 0))
abbrev nB (k : Nat) : Prop := ¬ k = 13 ∧ ¬ k = 22 ∧ ¬ k = 66
theorem nar_fits (x : Int32) : fits .byte (.int (vp_nar .byte x)) = true := fits_byte (i_byte _).1 (i_byte _).2
theorem BYr_u {f : Nat → Int32} (h : BYr f) (i : Nat) (x : Int32) : BYr (upd f i (vp_nar .byte x)) := by
  intro j
  by_cases e : j = i
  · rw [e, upd_same]; exact nar_fits x
  · rw [upd_other e]; exact h j
theorem BYr_c {f f2 : Nat → Int32} (h : BYr f) (h2 : BYr f2) (a b n : Nat) : BYr (va_cpy f f2 a b n) := by
  intro j
  unfold va_cpy
  split
  · exact h _
  · exact h2 _
theorem BYr_z {f : Nat → Int32} (h : BYr f) (n : Nat) : BYr (fun i => if i < n then f i else 0) := by
  intro j
  show fits .byte (.int (if j < n then f j else 0)) = true
  split
  · exact h j
  · decide
section KB
variable {σ : CS} {P : Prop}
theorem BY_I {j : Nat} {x : Int32} (hj : ¬ j = 1812 ∧ ¬ j = 1813 ∧ ¬ j = 1907) (h : BY P σ) : BY P (uI σ j x) := by
  refine ⟨h.1, h.2.1, h.2.2.1, h.2.2.2.1, h.2.2.2.2.1, ?_⟩
  show upd σ.1 j x 1812 = 0 → upd σ.1 j x 1813 = 0 ∧ (P → upd σ.1 j x 1907 = 0)
  rw [upd_other (fun z => hj.1 z.symm), upd_other (fun z => hj.2.1 z.symm), upd_other (fun z => hj.2.2 z.symm)]
  exact h.2.2.2.2.2
theorem BY_h (h : BY P σ) : BY P (uI σ 1812 1) := ⟨h.1, h.2.1, h.2.2.1, h.2.2.2.1, h.2.2.2.2.1, fun z => absurd z (by show ¬ (1 : Int32) = 0; decide)⟩
theorem BY_hh {x : Int32} (h : BY P σ) : BY P (uI (uI σ 1813 x) 1812 1) := ⟨h.1, h.2.1, h.2.2.1, h.2.2.2.1, h.2.2.2.2.1, fun z => absurd z (by show ¬ (1 : Int32) = 0; decide)⟩
theorem BY_h7 {x : Int32} (h : BY P σ) : BY P (uI (uI σ 1907 x) 1812 1) := ⟨h.1, h.2.1, h.2.2.1, h.2.2.2.1, h.2.2.2.2.1, fun z => absurd z (by show ¬ (1 : Int32) = 0; decide)⟩
theorem BY_7 {x : Int32} (hx : x = 0 ∨ ¬ P) (h : BY P σ) : BY P (uI σ 1907 x) := ⟨h.1, h.2.1, h.2.2.1, h.2.2.2.1, h.2.2.2.2.1, fun z => ⟨(h.2.2.2.2.2 z).1, fun y => hx.elim id (fun n => absurd y n)⟩⟩
theorem BY_hz (h : BY False σ) : BY False (uI (uI σ 1812 0) 1813 0) := ⟨h.1, h.2.1, h.2.2.1, h.2.2.2.1, h.2.2.2.2.1, fun _ => ⟨rfl, fun y => y.elim⟩⟩
theorem BY_f (h : BY P σ) : BY False σ := ⟨h.1, h.2.1, h.2.2.1, h.2.2.2.1, h.2.2.2.2.1, fun z => ⟨(h.2.2.2.2.2 z).1, fun y => y.elim⟩⟩
theorem nF_P (b : Bool) {k : Nat} (h : k ≤ 20) : ¬ fP b k = 1812 ∧ ¬ fP b k = 1813 ∧ ¬ fP b k = 1907 := by
  have e : fP true k = 5000 + k ∧ fP false k = 6800 + k := ⟨rfl, rfl⟩
  cases b
  · rw [e.2]; omega
  · rw [e.1]; omega
theorem BY_L {j : Nat} {x : Int64} (h : BY P σ) : BY P (uL σ j x) := h
theorem BY_J {j i : Nat} {x : Int64} (h : BY P σ) : BY P (uJ σ j i x) := h
theorem BY_uKd {b x : Bool} (h : BY P σ) : BY P (uKd σ b x) := h
theorem BY_uCur {b : Bool} (h : BY P σ) : BY P (uCur σ b) := h
theorem BY_uOt {b : Bool} (h : BY P σ) : BY P (uOt σ b) := h
theorem BY_uPi {i r : Nat} (h : BY P σ) : BY P (uPi σ i r) := h
theorem BY_uPp {b : Option Bool} (h : BY P σ) : BY P (uPp σ b) := h
theorem BY_uPr {b : Option Bool} (h : BY P σ) : BY P (uPr σ b) := h
theorem BY_F {k : Nat} {f : Nat → Int32} (hk : nB k) (h : BY P σ) : BY P (uF σ k f) := by
  unfold BY
  have e : ∀ a, ¬ a = k → (uF σ k f).2.2.1 a = σ.2.2.1 a := fun a ha => updG_other ha
  rw [e 13 (fun z => hk.1 z.symm), e 22 (fun z => hk.2.1 z.symm), e 66 (fun z => hk.2.2 z.symm)]
  exact h
theorem BY_A {k i : Nat} {x : Int32} (hk : nB k) (h : BY P σ) : BY P (uA σ k i x) := BY_F hk h
theorem BY_13 {i : Nat} {x : Int32} (h : BY P σ) : BY P (uA σ 13 i (vp_nar .byte x)) := ⟨BYr_u h.1 i x, h.2⟩
theorem BY_cp22 {a b n : Nat} (h : BY P σ) : BY P (uF σ 22 (va_cpy (σ.2.2.1 13) (σ.2.2.1 22) a b n)) := ⟨h.1, BYr_c h.1 h.2.1 a b n, h.2.2⟩
theorem BY_cp66 {a b n : Nat} (h : BY P σ) : BY P (uF σ 66 (va_cpy (σ.2.2.1 13) (σ.2.2.1 66) a b n)) := ⟨h.1, h.2.1, BYr_c h.1 h.2.2.1 a b n, h.2.2.2⟩
theorem BY_Z {k n : Nat} (hz : (k = 22 → n ≤ 60000) ∧ (k = 66 → n ≤ 10400)) (h : BY P σ) : BY P (uZ σ k n) := by
  have e : ∀ a, BYr (σ.2.2.1 a) → BYr ((uZ σ k n).2.2.1 a) := by
    intro a ha
    by_cases z : a = k
    · subst z
      show BYr (updG σ.2.2.1 a _ a)
      rw [updG_same]
      exact BYr_z ha _
    · show BYr (updG σ.2.2.1 k _ a)
      rw [updG_other z]
      exact ha
  refine ⟨e 13 h.1, e 22 h.2.1, e 66 h.2.2.1, ?_, ?_, h.2.2.2.2.2⟩
  · show updN (sN σ) k n 22 ≤ 60000
    unfold updN
    split
    · rename_i z
      exact hz.1 z.symm
    · exact h.2.2.2.1
  · show updN (sN σ) k n 66 ≤ 10400
    unfold updN
    split
    · rename_i z
      exact hz.2 z.symm
    · exact h.2.2.2.2.1
theorem nB_0 (b : Bool) : nB (pR0 b) := by cases b <;> (show nB _; decide)
theorem nB_5 (b : Bool) : nB (pR5 b) := by cases b <;> (show nB _; decide)
theorem nB_6 (b : Bool) : nB (pR6 b) := by cases b <;> (show nB _; decide)
theorem nB_7 (b : Bool) : nB (pR7 b) := by cases b <;> (show nB _; decide)
theorem nB_8 (b : Bool) : nB (pR8 b) := by cases b <;> (show nB _; decide)
theorem nB_9 (b : Bool) : nB (pR9 b) := by cases b <;> (show nB _; decide)
theorem nB_10 (b : Bool) : nB (pR10 b) := by cases b <;> (show nB _; decide)
theorem nB_13 (b : Bool) : nB (pR13 b) := by cases b <;> (show nB _; decide)
theorem nB_14 (b : Bool) : nB (pR14 b) := by cases b <;> (show nB _; decide)
theorem nB_15 (b : Bool) : nB (pR15 b) := by cases b <;> (show nB _; decide)
theorem nB_16 (b : Bool) : nB (pR16 b) := by cases b <;> (show nB _; decide)
theorem nB_17 (b : Bool) : nB (pR17 b) := by cases b <;> (show nB _; decide)
theorem nB_18 (b : Bool) : nB (pR18 b) := by cases b <;> (show nB _; decide)
theorem BY_C {b : Bool} {n : Nat} (h : BY P σ) : BY P (uC σ b n) := by
  have hk := nB_0 (tS σ b)
  unfold BY
  have e : ∀ a, ¬ a = pR0 (tS σ b) → (uC σ b n).2.2.1 a = σ.2.2.1 a ∧ sN (uC σ b n) a = sN σ a := fun a ha => ⟨updG_other ha, if_neg ha⟩
  rw [(e 13 (fun z => hk.1 z.symm)).1, (e 22 (fun z => hk.2.1 z.symm)).1, (e 66 (fun z => hk.2.2 z.symm)).1, (e 22 (fun z => hk.2.1 z.symm)).2, (e 66 (fun z => hk.2.2 z.symm)).2]
  exact h
end KB
section KC
variable {P : Prop}
/-- whatever comes back: its bytes are bytes -/
def By (P : Prop) (x : Option (Int32 × CS)) : Prop := ∀ r, x = some r → BY P r.2
def Bf (P : Prop) (x : Option RS) : Prop := ∀ r, x = some r → BY P r.2.1
theorem By_no : By P none := fun _ h => by cases h
theorem Bf_no : Bf P none := fun _ h => by cases h
theorem By_so {a : Int32} {σ : CS} (h : BY P σ) : By P (some (a, σ)) := fun _ e => by cases e; exact h
theorem Bf_so {a : Nat × Int32} {σ : CS} {q : Nat × Nat} (h : BY P σ) : Bf P (some (a, σ, q)) := fun _ e => by cases e; exact h
theorem By_eq {a a' : Option (Int32 × CS)} (h1 : a = a') (h : By P a') : By P a := by rw [h1]; exact h
theorem Bf_eq {a a' : Option RS} (h1 : a = a') (h : Bf P a') : Bf P a := by rw [h1]; exact h
theorem By_ite {c : Prop} {_ : Decidable c} {a b : Option (Int32 × CS)} (h1 : By P a) (h2 : By P b) : By P (if c then a else b) := by
  by_cases h : c
  · rw [if_pos h]; exact h1
  · rw [if_neg h]; exact h2
theorem Bf_ite {c : Prop} {_ : Decidable c} {a b : Option RS} (h1 : Bf P a) (h2 : Bf P b) : Bf P (if c then a else b) := by
  by_cases h : c
  · rw [if_pos h]; exact h1
  · rw [if_neg h]; exact h2
theorem By_oc {x : Option (Int32 × CS)} {f : Int32 × CS → Option (Int32 × CS)} (h1 : By P x) (h2 : ∀ r, BY P r.2 → By P (f r)) : By P (oc x f) := by
  intro r hr
  cases x with
  | none => cases hr
  | some s => exact h2 s (h1 s rfl) r hr
theorem Bf_op {x : Option (Int32 × CS)} {f : Int32 × CS → Option RS} (h1 : By P x) (h2 : ∀ r, BY P r.2 → Bf P (f r)) : Bf P (Jvm.Pilot.CSetHouseLaw_law_r6264_2ea8b6.op x f) := by
  intro r hr
  cases x with
  | none => cases hr
  | some s => exact h2 s (h1 s rfl) r hr
theorem Bf_ad {q : Nat × Nat} {y : Option RS} (h : Bf P y) : Bf P (adR q y) := by
  intro r hr
  cases y with
  | none => cases hr
  | some s =>
    have e : some (s.1, s.2.1, (q.1 + s.2.2.1, q.2 + s.2.2.2)) = some r := hr
    cases e
    exact h s rfl
theorem Bf_ox {x : Option RS} {f : RS → Option RS} (h1 : Bf P x) (h2 : ∀ r, BY P r.2.1 → Bf P (f r)) : Bf P (ox x f) := by
  cases x with
  | none => exact Bf_no
  | some s =>
    have z := h1 s rfl
    show Bf P (if s.1.1 = 0 then adR s.2.2 (f s) else some s)
    refine Bf_ite (Bf_ad (h2 s z)) (fun r e => ?_)
    cases e
    exact z
theorem Bf_oh {x : Option RS} {f g : RS → Option RS} (h1 : Bf P x) (h2 : ∀ r, BY P r.2.1 → Bf P (f r)) (h3 : ∀ r, BY P r.2.1 → Bf P (g r)) : Bf P (oh x f g) := by
  cases x with
  | none => exact Bf_no
  | some s =>
    have z := h1 s rfl
    exact Bf_ite (Bf_ad (h2 s z)) (Bf_ite (Bf_ad (h3 s z)) Bf_no)
theorem By_oe {d : Nat} {f : Nat → Option (Int32 × CS)} (h : ∀ e, By P (f e)) : By P (oe d f) := by
  cases d with
  | zero => exact By_no
  | succ e => exact h e
theorem Bf_of {d : Nat} {f : Nat → Option RS} (h : ∀ e, Bf P (f e)) : Bf P (Jvm.Pilot.CSetHouseLaw_law_r6264_2ea8b6.of d f) := by
  cases d with
  | zero => exact Bf_no
  | succ e => exact h e
theorem By_oB {x : Option Bool} {f : Bool → Option (Int32 × CS)} (h : ∀ e, By P (f e)) : By P (oB x f) := by
  cases x with
  | none => exact By_no
  | some e => exact h e
theorem Bf_oP {x : Option Bool} {f : Bool → Option RS} (h : ∀ e, Bf P (f e)) : Bf P (oP x f) := by
  cases x with
  | none => exact Bf_no
  | some e => exact h e
theorem Bf_oN {x : Option Bool} {u v : Option RS} (h1 : Bf P u) (h2 : Bf P v) : Bf P (oN x u v) := by
  cases x with
  | none => exact h1
  | some e => exact h2
theorem Tm_pt {α : Type} {g : Nat → Option α} {P Q : α → Prop} (h : Tm g P) (b : ∀ k r, g k = some r → Q r) : Tm g (fun r => P r ∧ Q r) := by
  obtain ⟨r, k0, h1, h2⟩ := h
  exact ⟨r, k0, h1, h2, b k0 r (h1 k0 (Nat.le_refl _))⟩
/-- what ends, ends with bytes -/
theorem Tm_By {g : Nat → Option (Int32 × CS)} {Q : Int32 × CS → Prop} (h : Tm g Q) (b : ∀ k, By P (g k)) : Tm g (fun r => Q r ∧ BY P r.2) := Tm_pt h (fun k r e => b k r e)
theorem Tm_Bf {g : Nat → Option RS} {Q : RS → Prop} (h : Tm g Q) (b : ∀ k, Bf P (g k)) : Tm g (fun r => Q r ∧ BY P r.2.1) := Tm_pt h (fun k r e => b k r e)
end KC
theorem kb_y_X1_kind {P : Prop} : ∀ (k b : Nat) (L : LV) (σ : CS), BY P σ → By P (y_X1_kind k b L σ) := by
  intro k
  induction k with
  | zero => intro b L σ _; exact By_no
  | succ k ih =>
    intro b L σ hb
    match b with
    | 0 =>
      refine By_eq (by rw [y_X1_kind]) ?_
      exact By_ite (ih _ _ _ hb) (ih _ _ _ hb)
    | 1 =>
      refine By_eq (by rw [y_X1_kind]) ?_
      exact By_ite (ih _ _ _ hb) (By_no)
    | 2 =>
      refine By_eq (by rw [y_X1_kind]) ?_
      exact By_so hb
    | b + 3 =>
      exact By_eq (by rw [y_X1_kind]) By_no
theorem kb_y_X10_small {P : Prop} : ∀ (k b : Nat) (L : LV) (σ : CS), BY P σ → By P (y_X10_small k b L σ) := by
  intro k
  induction k with
  | zero => intro b L σ _; exact By_no
  | succ k ih =>
    intro b L σ hb
    match b with
    | 0 =>
      refine By_eq (by rw [y_X10_small]) ?_
      exact By_so hb
    | b + 1 =>
      exact By_eq (by rw [y_X10_small]) By_no
theorem kb_y_X1_makeWhole__a7 {P : Prop} : ∀ (k b : Nat) (L : LV) (σ : CS), BY P σ → By P (y_X1_makeWhole__a7 k b L σ) := by
  intro k
  induction k with
  | zero => intro b L σ _; exact By_no
  | succ k ih =>
    intro b L σ hb
    match b with
    | 0 =>
      refine By_eq (by rw [y_X1_makeWhole__a7]) ?_
      exact By_ite (ih _ _ _ hb) (By_so hb)
    | 1 =>
      refine By_eq (by rw [y_X1_makeWhole__a7]) ?_
      exact By_ite (ih _ _ _ hb) (By_so hb)
    | 2 =>
      refine By_eq (by rw [y_X1_makeWhole__a7]) ?_
      exact By_ite (ih _ _ _ (BY_I (by decide) hb)) (ih _ _ _ (BY_I (by decide) hb))
    | 3 =>
      refine By_eq (by rw [y_X1_makeWhole__a7]) ?_
      exact ih _ _ _ hb
    | 4 =>
      refine By_eq (by rw [y_X1_makeWhole__a7]) ?_
      exact By_ite (By_ite (By_so (BY_F (by decide) (BY_A (by decide) hb))) (By_no)) (By_no)
    | b + 5 =>
      exact By_eq (by rw [y_X1_makeWhole__a7]) By_no
theorem kb_y_X10_of {P : Prop} : ∀ (k b : Nat) (L : LV) (σ : CS), BY P σ → By P (y_X10_of k b L σ) := by
  intro k
  induction k with
  | zero => intro b L σ _; exact By_no
  | succ k ih =>
    intro b L σ hb
    match b with
    | 0 =>
      refine By_eq (by rw [y_X10_of]) ?_
      exact By_ite (ih _ _ _ hb) (By_ite (ih _ _ _ hb) (By_oc (kb_y_X10_small _ _ _ _ hb) (fun _ h1 => By_so h1)))
    | 1 =>
      refine By_eq (by rw [y_X10_of]) ?_
      exact By_ite (ih _ _ _ hb) (ih _ _ _ hb)
    | 2 =>
      refine By_eq (by rw [y_X10_of]) ?_
      exact ih _ _ _ hb
    | 3 =>
      refine By_eq (by rw [y_X10_of]) ?_
      exact By_ite (By_ite (By_ite (By_ite (ih _ _ _ (BY_A (by decide) (BY_A (by decide) hb))) (ih _ _ _ (BY_A (by decide) (BY_A (by decide) hb)))) (By_no)) (By_no)) (By_no)
    | 4 =>
      refine By_eq (by rw [y_X10_of]) ?_
      exact ih _ _ _ hb
    | 5 =>
      refine By_eq (by rw [y_X10_of]) ?_
      exact By_ite (ih _ _ _ hb) (ih _ _ _ hb)
    | 6 =>
      refine By_eq (by rw [y_X10_of]) ?_
      exact ih _ _ _ hb
    | 7 =>
      refine By_eq (by rw [y_X10_of]) ?_
      exact By_oc (kb_y_X1_makeWhole__a7 _ _ _ _ hb) (fun _ h2 => By_so h2)
    | b + 8 =>
      exact By_eq (by rw [y_X10_of]) By_no
theorem kb_y_X10_isBelow {P : Prop} : ∀ (k b : Nat) (L : LV) (σ : CS), BY P σ → By P (y_X10_isBelow k b L σ) := by
  intro k
  induction k with
  | zero => intro b L σ _; exact By_no
  | succ k ih =>
    intro b L σ hb
    match b with
    | 0 =>
      refine By_eq (by rw [y_X10_isBelow]) ?_
      exact By_ite (ih _ _ _ hb) (By_ite (ih _ _ _ hb) (ih _ _ _ hb))
    | 1 =>
      refine By_eq (by rw [y_X10_isBelow]) ?_
      exact By_ite (By_ite (ih _ _ _ hb) (ih _ _ _ hb)) (By_no)
    | 2 =>
      refine By_eq (by rw [y_X10_isBelow]) ?_
      exact ih _ _ _ hb
    | 3 =>
      refine By_eq (by rw [y_X10_isBelow]) ?_
      exact By_ite (By_so hb) (By_no)
    | 4 =>
      refine By_eq (by rw [y_X10_isBelow]) ?_
      exact ih _ _ _ hb
    | b + 5 =>
      exact By_eq (by rw [y_X10_isBelow]) By_no
theorem kb_y_X10_addLimbs {P : Prop} : ∀ (k b : Nat) (L : LV) (σ : CS), BY P σ → By P (y_X10_addLimbs k b L σ) := by
  intro k
  induction k with
  | zero => intro b L σ _; exact By_no
  | succ k ih =>
    intro b L σ hb
    match b with
    | 0 =>
      refine By_eq (by rw [y_X10_addLimbs]) ?_
      exact ih _ _ _ hb
    | 1 =>
      refine By_eq (by rw [y_X10_addLimbs]) ?_
      exact By_ite (ih _ _ _ hb) (By_ite (ih _ _ _ hb) (By_ite (ih _ _ _ hb) (By_no)))
    | 2 =>
      refine By_eq (by rw [y_X10_addLimbs]) ?_
      exact By_ite (By_so (BY_A (by decide) hb)) (By_no)
    | 3 =>
      refine By_eq (by rw [y_X10_addLimbs]) ?_
      exact ih _ _ _ hb
    | 4 =>
      refine By_eq (by rw [y_X10_addLimbs]) ?_
      exact By_ite (ih _ _ _ hb) (By_ite (ih _ _ _ hb) (By_no))
    | 5 =>
      refine By_eq (by rw [y_X10_addLimbs]) ?_
      exact ih _ _ _ hb
    | 6 =>
      refine By_eq (by rw [y_X10_addLimbs]) ?_
      exact By_ite (ih _ _ _ (BY_A (by decide) hb)) (By_no)
    | b + 7 =>
      exact By_eq (by rw [y_X10_addLimbs]) By_no
theorem kb_y_X10_made {P : Prop} : ∀ (k b : Nat) (L : LV) (σ : CS), BY P σ → By P (y_X10_made k b L σ) := by
  intro k
  induction k with
  | zero => intro b L σ _; exact By_no
  | succ k ih =>
    intro b L σ hb
    match b with
    | 0 =>
      refine By_eq (by rw [y_X10_made]) ?_
      exact ih _ _ _ hb
    | 1 =>
      refine By_eq (by rw [y_X10_made]) ?_
      exact By_ite (ih _ _ _ hb) (By_ite (By_ite (ih _ _ _ hb) (ih _ _ _ hb)) (By_no))
    | 2 =>
      refine By_eq (by rw [y_X10_made]) ?_
      exact By_ite (By_ite (ih _ _ _ hb) (By_ite (ih _ _ _ hb) (By_ite (ih _ _ _ hb) (By_ite (ih _ _ _ hb) (By_ite (ih _ _ _ hb) (ih _ _ _ hb)))))) (By_no)
    | 3 =>
      refine By_eq (by rw [y_X10_made]) ?_
      exact By_ite (ih _ _ _ hb) (ih _ _ _ hb)
    | 4 =>
      refine By_eq (by rw [y_X10_made]) ?_
      exact By_ite (ih _ _ _ hb) (ih _ _ _ hb)
    | 5 =>
      refine By_eq (by rw [y_X10_made]) ?_
      exact By_oc (kb_y_X1_makeWhole__a7 _ _ _ _ hb) (fun _ h3 => ih _ _ _ h3)
    | 6 =>
      refine By_eq (by rw [y_X10_made]) ?_
      exact By_so hb
    | 7 =>
      refine By_eq (by rw [y_X10_made]) ?_
      exact By_ite (ih _ _ _ hb) (ih _ _ _ hb)
    | 8 =>
      refine By_eq (by rw [y_X10_made]) ?_
      exact By_so hb
    | 9 =>
      refine By_eq (by rw [y_X10_made]) ?_
      exact ih _ _ _ hb
    | 10 =>
      refine By_eq (by rw [y_X10_made]) ?_
      exact By_oc (kb_y_X10_small _ _ _ _ hb) (fun _ h4 => ih _ _ _ h4)
    | b + 11 =>
      exact By_eq (by rw [y_X10_made]) By_no
theorem kb_y_J6_compare_7cf53 {P : Prop} : ∀ (k b : Nat) (L : LV) (σ : CS), BY P σ → By P (y_J6_compare_7cf53 k b L σ) := by
  intro k
  induction k with
  | zero => intro b L σ _; exact By_no
  | succ k ih =>
    intro b L σ hb
    match b with
    | 0 =>
      refine By_eq (by rw [y_J6_compare_7cf53]) ?_
      exact By_ite (ih _ _ _ hb) (ih _ _ _ hb)
    | 1 =>
      refine By_eq (by rw [y_J6_compare_7cf53]) ?_
      exact By_ite (ih _ _ _ hb) (ih _ _ _ hb)
    | 2 =>
      refine By_eq (by rw [y_J6_compare_7cf53]) ?_
      exact By_so hb
    | 3 =>
      refine By_eq (by rw [y_J6_compare_7cf53]) ?_
      exact ih _ _ _ hb
    | b + 4 =>
      exact By_eq (by rw [y_J6_compare_7cf53]) By_no
theorem kb_y_X10_compareLimbs {P : Prop} : ∀ (k b : Nat) (L : LV) (σ : CS), BY P σ → By P (y_X10_compareLimbs k b L σ) := by
  intro k
  induction k with
  | zero => intro b L σ _; exact By_no
  | succ k ih =>
    intro b L σ hb
    match b with
    | 0 =>
      refine By_eq (by rw [y_X10_compareLimbs]) ?_
      exact By_oc (kb_y_J6_compare_7cf53 _ _ _ _ hb) (fun _ h5 => ih _ _ _ h5)
    | 1 =>
      refine By_eq (by rw [y_X10_compareLimbs]) ?_
      exact By_ite (ih _ _ _ hb) (By_ite (By_ite (By_ite (By_oc (kb_y_J6_compare_7cf53 _ _ _ _ hb) (fun _ h6 => ih _ _ _ h6)) (By_no)) (By_no)) (ih _ _ _ hb))
    | 2 =>
      refine By_eq (by rw [y_X10_compareLimbs]) ?_
      exact By_so hb
    | b + 3 =>
      exact By_eq (by rw [y_X10_compareLimbs]) By_no
theorem kb_y_X10_load__a5 {P : Prop} : ∀ (k b : Nat) (L : LV) (σ : CS), BY P σ → By P (y_X10_load__a5 k b L σ) := by
  intro k
  induction k with
  | zero => intro b L σ _; exact By_no
  | succ k ih =>
    intro b L σ hb
    match b with
    | 0 =>
      refine By_eq (by rw [y_X10_load__a5]) ?_
      exact By_ite (ih _ _ _ hb) (By_ite (ih _ _ _ hb) (ih _ _ _ hb))
    | 1 =>
      refine By_eq (by rw [y_X10_load__a5]) ?_
      exact By_ite (By_ite (By_so (BY_F (by decide) hb)) (By_no)) (By_no)
    | 2 =>
      refine By_eq (by rw [y_X10_load__a5]) ?_
      exact ih _ _ _ hb
    | 3 =>
      refine By_eq (by rw [y_X10_load__a5]) ?_
      exact By_ite (By_ite (ih _ _ _ (BY_A (by decide) hb)) (ih _ _ _ (BY_A (by decide) hb))) (By_no)
    | 4 =>
      refine By_eq (by rw [y_X10_load__a5]) ?_
      exact ih _ _ _ hb
    | 5 =>
      refine By_eq (by rw [y_X10_load__a5]) ?_
      exact By_so hb
    | b + 6 =>
      exact By_eq (by rw [y_X10_load__a5]) By_no
theorem kb_y_X10_load__a6 {P : Prop} : ∀ (k b : Nat) (L : LV) (σ : CS), BY P σ → By P (y_X10_load__a6 k b L σ) := by
  intro k
  induction k with
  | zero => intro b L σ _; exact By_no
  | succ k ih =>
    intro b L σ hb
    match b with
    | 0 =>
      refine By_eq (by rw [y_X10_load__a6]) ?_
      exact By_ite (ih _ _ _ hb) (By_ite (ih _ _ _ hb) (ih _ _ _ hb))
    | 1 =>
      refine By_eq (by rw [y_X10_load__a6]) ?_
      exact By_ite (By_ite (By_so (BY_F (by decide) hb)) (By_no)) (By_no)
    | 2 =>
      refine By_eq (by rw [y_X10_load__a6]) ?_
      exact ih _ _ _ hb
    | 3 =>
      refine By_eq (by rw [y_X10_load__a6]) ?_
      exact By_ite (By_ite (ih _ _ _ (BY_A (by decide) hb)) (ih _ _ _ (BY_A (by decide) hb))) (By_no)
    | 4 =>
      refine By_eq (by rw [y_X10_load__a6]) ?_
      exact ih _ _ _ hb
    | 5 =>
      refine By_eq (by rw [y_X10_load__a6]) ?_
      exact By_so hb
    | b + 6 =>
      exact By_eq (by rw [y_X10_load__a6]) By_no
theorem kb_y_X10_takeLimbs__a5__a6 {P : Prop} : ∀ (k b : Nat) (L : LV) (σ : CS), BY P σ → By P (y_X10_takeLimbs__a5__a6 k b L σ) := by
  intro k
  induction k with
  | zero => intro b L σ _; exact By_no
  | succ k ih =>
    intro b L σ hb
    match b with
    | 0 =>
      refine By_eq (by rw [y_X10_takeLimbs__a5__a6]) ?_
      exact ih _ _ _ hb
    | 1 =>
      refine By_eq (by rw [y_X10_takeLimbs__a5__a6]) ?_
      exact By_ite (ih _ _ _ hb) (By_ite (By_ite (ih _ _ _ hb) (By_ite (ih _ _ _ hb) (By_no))) (By_no))
    | 2 =>
      refine By_eq (by rw [y_X10_takeLimbs__a5__a6]) ?_
      exact By_so hb
    | 3 =>
      refine By_eq (by rw [y_X10_takeLimbs__a5__a6]) ?_
      exact ih _ _ _ hb
    | 4 =>
      refine By_eq (by rw [y_X10_takeLimbs__a5__a6]) ?_
      exact By_ite (ih _ _ _ (BY_A (by decide) hb)) (By_no)
    | b + 5 =>
      exact By_eq (by rw [y_X10_takeLimbs__a5__a6]) By_no
theorem kb_y_X10_takeLimbs__a6__a5 {P : Prop} : ∀ (k b : Nat) (L : LV) (σ : CS), BY P σ → By P (y_X10_takeLimbs__a6__a5 k b L σ) := by
  intro k
  induction k with
  | zero => intro b L σ _; exact By_no
  | succ k ih =>
    intro b L σ hb
    match b with
    | 0 =>
      refine By_eq (by rw [y_X10_takeLimbs__a6__a5]) ?_
      exact ih _ _ _ hb
    | 1 =>
      refine By_eq (by rw [y_X10_takeLimbs__a6__a5]) ?_
      exact By_ite (ih _ _ _ hb) (By_ite (By_ite (ih _ _ _ hb) (By_ite (ih _ _ _ hb) (By_no))) (By_no))
    | 2 =>
      refine By_eq (by rw [y_X10_takeLimbs__a6__a5]) ?_
      exact By_so hb
    | 3 =>
      refine By_eq (by rw [y_X10_takeLimbs__a6__a5]) ?_
      exact ih _ _ _ hb
    | 4 =>
      refine By_eq (by rw [y_X10_takeLimbs__a6__a5]) ?_
      exact By_ite (ih _ _ _ (BY_A (by decide) hb)) (By_no)
    | b + 5 =>
      exact By_eq (by rw [y_X10_takeLimbs__a6__a5]) By_no
theorem kb_y_X10_added {P : Prop} : ∀ (k b : Nat) (L : LV) (σ : CS), BY P σ → By P (y_X10_added k b L σ) := by
  intro k
  induction k with
  | zero => intro b L σ _; exact By_no
  | succ k ih =>
    intro b L σ hb
    match b with
    | 0 =>
      refine By_eq (by rw [y_X10_added]) ?_
      exact By_ite (ih _ _ _ hb) (By_ite (ih _ _ _ hb) (By_ite (ih _ _ _ hb) (ih _ _ _ hb)))
    | 1 =>
      refine By_eq (by rw [y_X10_added]) ?_
      exact By_oc (kb_y_X10_load__a5 _ _ _ _ hb) (fun _ h7 => By_oc (kb_y_X10_load__a6 _ _ _ _ h7) (fun _ h8 => By_oc (kb_y_X10_isBelow _ _ _ _ h8) (fun _ h9 => By_oc (kb_y_X10_isBelow _ _ _ _ h9) (fun _ h10 => By_ite (ih _ _ _ h10) (ih _ _ _ h10)))))
    | 2 =>
      refine By_eq (by rw [y_X10_added]) ?_
      exact ih _ _ _ hb
    | 3 =>
      refine By_eq (by rw [y_X10_added]) ?_
      exact By_oc (kb_y_X10_of _ _ _ _ hb) (fun _ h11 => By_so h11)
    | 4 =>
      refine By_eq (by rw [y_X10_added]) ?_
      exact ih _ _ _ hb
    | 5 =>
      refine By_eq (by rw [y_X10_added]) ?_
      exact By_ite (By_oc (kb_y_X10_addLimbs _ _ _ _ hb) (fun _ h12 => By_oc (kb_y_X10_made _ _ _ _ h12) (fun _ h13 => By_so h13))) (ih _ _ _ hb)
    | 6 =>
      refine By_eq (by rw [y_X10_added]) ?_
      exact By_oc (kb_y_X10_compareLimbs _ _ _ _ hb) (fun _ h14 => By_ite (By_so h14) (ih _ _ _ h14))
    | 7 =>
      refine By_eq (by rw [y_X10_added]) ?_
      exact By_ite (ih _ _ _ hb) (By_oc (kb_y_X10_takeLimbs__a5__a6 _ _ _ _ hb) (fun _ h15 => By_oc (kb_y_X10_made _ _ _ _ h15) (fun _ h16 => By_so h16)))
    | 8 =>
      refine By_eq (by rw [y_X10_added]) ?_
      exact By_oc (kb_y_X10_takeLimbs__a6__a5 _ _ _ _ hb) (fun _ h17 => By_oc (kb_y_X10_made _ _ _ _ h17) (fun _ h18 => By_so h18))
    | b + 9 =>
      exact By_eq (by rw [y_X10_added]) By_no
theorem kb_y_X1_length {P : Prop} : ∀ (k b : Nat) (L : LV) (σ : CS), BY P σ → By P (y_X1_length k b L σ) := by
  intro k
  induction k with
  | zero => intro b L σ _; exact By_no
  | succ k ih =>
    intro b L σ hb
    match b with
    | 0 =>
      refine By_eq (by rw [y_X1_length]) ?_
      exact By_ite (ih _ _ _ hb) (By_ite (ih _ _ _ hb) (ih _ _ _ hb))
    | 1 =>
      refine By_eq (by rw [y_X1_length]) ?_
      exact By_ite (By_so hb) (By_no)
    | 2 =>
      refine By_eq (by rw [y_X1_length]) ?_
      exact ih _ _ _ hb
    | 3 =>
      refine By_eq (by rw [y_X1_length]) ?_
      exact By_so hb
    | b + 4 =>
      exact By_eq (by rw [y_X1_length]) By_no
theorem kb_y_X1_header {P : Prop} : ∀ (k b : Nat) (L : LV) (σ : CS), BY P σ → By P (y_X1_header k b L σ) := by
  intro k
  induction k with
  | zero => intro b L σ _; exact By_no
  | succ k ih =>
    intro b L σ hb
    match b with
    | 0 =>
      refine By_eq (by rw [y_X1_header]) ?_
      exact By_so hb
    | b + 1 =>
      exact By_eq (by rw [y_X1_header]) By_no
theorem kb_y_X1_copyBytes__a15 {P : Prop} : ∀ (k b : Nat) (L : LV) (σ : CS), BY P σ → By P (y_X1_copyBytes__a15 k b L σ) := by
  intro k
  induction k with
  | zero => intro b L σ _; exact By_no
  | succ k ih =>
    intro b L σ hb
    match b with
    | 0 =>
      refine By_eq (by rw [y_X1_copyBytes__a15]) ?_
      exact ih _ _ _ hb
    | 1 =>
      refine By_eq (by rw [y_X1_copyBytes__a15]) ?_
      exact By_ite (ih _ _ _ hb) (By_ite (ih _ _ _ hb) (By_ite (ih _ _ _ hb) (ih _ _ _ hb)))
    | 2 =>
      refine By_eq (by rw [y_X1_copyBytes__a15]) ?_
      exact By_so hb
    | 3 =>
      refine By_eq (by rw [y_X1_copyBytes__a15]) ?_
      exact By_ite (ih _ _ _ hb) (By_no)
    | 4 =>
      refine By_eq (by rw [y_X1_copyBytes__a15]) ?_
      exact By_ite (ih _ _ _ (BY_A (by decide) hb)) (By_no)
    | b + 5 =>
      exact By_eq (by rw [y_X1_copyBytes__a15]) By_no
theorem kb_y_X1_makeString__a15 {P : Prop} : ∀ (k b : Nat) (L : LV) (σ : CS), BY P σ → By P (y_X1_makeString__a15 k b L σ) := by
  intro k
  induction k with
  | zero => intro b L σ _; exact By_no
  | succ k ih =>
    intro b L σ hb
    match b with
    | 0 =>
      refine By_eq (by rw [y_X1_makeString__a15]) ?_
      exact By_ite (ih _ _ _ hb) (By_ite (ih _ _ _ hb) (ih _ _ _ hb))
    | 1 =>
      refine By_eq (by rw [y_X1_makeString__a15]) ?_
      exact By_ite (ih _ _ _ hb) (By_so hb)
    | 2 =>
      refine By_eq (by rw [y_X1_makeString__a15]) ?_
      exact By_ite (ih _ _ _ hb) (By_no)
    | 3 =>
      refine By_eq (by rw [y_X1_makeString__a15]) ?_
      exact By_so hb
    | 4 =>
      refine By_eq (by rw [y_X1_makeString__a15]) ?_
      exact By_ite (ih _ _ _ hb) (By_so hb)
    | 5 =>
      refine By_eq (by rw [y_X1_makeString__a15]) ?_
      exact By_oc (kb_y_X1_header _ _ _ _ (BY_I (by decide) hb)) (fun _ h19 => By_ite (ih _ _ _ (BY_A (by decide) h19)) (By_no))
    | 6 =>
      refine By_eq (by rw [y_X1_makeString__a15]) ?_
      exact ih _ _ _ hb
    | 7 =>
      refine By_eq (by rw [y_X1_makeString__a15]) ?_
      exact By_ite (ih _ _ _ hb) (By_ite (By_ite (ih _ _ _ hb) (By_ite (ih _ _ _ hb) (ih _ _ _ hb))) (By_no))
    | 8 =>
      refine By_eq (by rw [y_X1_makeString__a15]) ?_
      exact By_so hb
    | 9 =>
      refine By_eq (by rw [y_X1_makeString__a15]) ?_
      exact By_ite (ih _ _ _ (BY_A (by decide) hb)) (By_no)
    | 10 =>
      refine By_eq (by rw [y_X1_makeString__a15]) ?_
      exact ih _ _ _ hb
    | b + 11 =>
      exact By_eq (by rw [y_X1_makeString__a15]) By_no
theorem kb_y_X0_joined {P : Prop} : ∀ (k b : Nat) (L : LV) (σ : CS), BY P σ → By P (y_X0_joined k b L σ) := by
  intro k
  induction k with
  | zero => intro b L σ _; exact By_no
  | succ k ih =>
    intro b L σ hb
    match b with
    | 0 =>
      refine By_eq (by rw [y_X0_joined]) ?_
      exact By_oc (kb_y_X1_length _ _ _ _ hb) (fun _ h20 => By_oc (kb_y_X1_copyBytes__a15 _ _ _ _ h20) (fun _ h21 => By_oc (kb_y_X1_length _ _ _ _ h21) (fun _ h22 => By_oc (kb_y_X1_copyBytes__a15 _ _ _ _ h22) (fun _ h23 => By_oc (kb_y_X1_makeString__a15 _ _ _ _ h23) (fun _ h24 => By_so h24)))))
    | b + 1 =>
      exact By_eq (by rw [y_X0_joined]) By_no
theorem kb_y_X0_load {P : Prop} : ∀ (k b : Nat) (L : LV) (σ : CS), BY P σ → By P (y_X0_load k b L σ) := by
  intro k
  induction k with
  | zero => intro b L σ _; exact By_no
  | succ k ih =>
    intro b L σ hb
    match b with
    | 0 =>
      refine By_eq (by rw [y_X0_load]) ?_
      exact By_ite (ih _ _ _ hb) (By_ite (ih _ _ _ hb) (ih _ _ _ hb))
    | 1 =>
      refine By_eq (by rw [y_X0_load]) ?_
      exact By_so hb
    | 2 =>
      refine By_eq (by rw [y_X0_load]) ?_
      exact By_ite (By_so (BY_F (by decide) hb)) (By_no)
    | b + 3 =>
      exact By_eq (by rw [y_X0_load]) By_no
theorem kb_y_X1_member {P : Prop} : ∀ (k b : Nat) (L : LV) (σ : CS), BY P σ → By P (y_X1_member k b L σ) := by
  intro k
  induction k with
  | zero => intro b L σ _; exact By_no
  | succ k ih =>
    intro b L σ hb
    match b with
    | 0 =>
      refine By_eq (by rw [y_X1_member]) ?_
      exact By_ite (ih _ _ _ hb) (By_ite (ih _ _ _ hb) (By_ite (By_ite (ih _ _ _ hb) (By_ite (ih _ _ _ hb) (By_no))) (By_no)))
    | 1 =>
      refine By_eq (by rw [y_X1_member]) ?_
      exact ih _ _ _ hb
    | 2 =>
      refine By_eq (by rw [y_X1_member]) ?_
      exact By_so hb
    | b + 3 =>
      exact By_eq (by rw [y_X1_member]) By_no
theorem kb_y_X1_compareWholes {P : Prop} : ∀ (k b : Nat) (L : LV) (σ : CS), BY P σ → By P (y_X1_compareWholes k b L σ) := by
  intro k
  induction k with
  | zero => intro b L σ _; exact By_no
  | succ k ih =>
    intro b L σ hb
    match b with
    | 0 =>
      refine By_eq (by rw [y_X1_compareWholes]) ?_
      exact By_ite (ih _ _ _ hb) (By_ite (By_ite (ih _ _ _ hb) (ih _ _ _ hb)) (By_no))
    | 1 =>
      refine By_eq (by rw [y_X1_compareWholes]) ?_
      exact ih _ _ _ hb
    | 2 =>
      refine By_eq (by rw [y_X1_compareWholes]) ?_
      exact By_ite (ih _ _ _ hb) (By_ite (By_ite (ih _ _ _ hb) (ih _ _ _ hb)) (By_no))
    | 3 =>
      refine By_eq (by rw [y_X1_compareWholes]) ?_
      exact ih _ _ _ hb
    | 4 =>
      refine By_eq (by rw [y_X1_compareWholes]) ?_
      exact By_ite (ih _ _ _ hb) (By_ite (ih _ _ _ hb) (ih _ _ _ hb))
    | 5 =>
      refine By_eq (by rw [y_X1_compareWholes]) ?_
      exact By_ite (ih _ _ _ hb) (By_ite (ih _ _ _ hb) (ih _ _ _ hb))
    | 6 =>
      refine By_eq (by rw [y_X1_compareWholes]) ?_
      exact ih _ _ _ hb
    | 7 =>
      refine By_eq (by rw [y_X1_compareWholes]) ?_
      exact By_so hb
    | 8 =>
      refine By_eq (by rw [y_X1_compareWholes]) ?_
      exact By_ite (ih _ _ _ hb) (ih _ _ _ hb)
    | 9 =>
      refine By_eq (by rw [y_X1_compareWholes]) ?_
      exact By_ite (By_ite (By_ite (ih _ _ _ hb) (ih _ _ _ hb)) (By_no)) (By_no)
    | 10 =>
      refine By_eq (by rw [y_X1_compareWholes]) ?_
      exact ih _ _ _ hb
    | 11 =>
      refine By_eq (by rw [y_X1_compareWholes]) ?_
      exact By_so hb
    | 12 =>
      refine By_eq (by rw [y_X1_compareWholes]) ?_
      exact By_ite (ih _ _ _ hb) (ih _ _ _ hb)
    | 13 =>
      refine By_eq (by rw [y_X1_compareWholes]) ?_
      exact ih _ _ _ hb
    | 14 =>
      refine By_eq (by rw [y_X1_compareWholes]) ?_
      exact ih _ _ _ hb
    | 15 =>
      refine By_eq (by rw [y_X1_compareWholes]) ?_
      exact By_ite (ih _ _ _ hb) (By_ite (By_ite (By_ite (By_ite (ih _ _ _ hb) (ih _ _ _ hb)) (By_no)) (By_no)) (ih _ _ _ hb))
    | 16 =>
      refine By_eq (by rw [y_X1_compareWholes]) ?_
      exact By_ite (ih _ _ _ hb) (ih _ _ _ hb)
    | 17 =>
      refine By_eq (by rw [y_X1_compareWholes]) ?_
      exact By_ite (ih _ _ _ hb) (ih _ _ _ hb)
    | 18 =>
      refine By_eq (by rw [y_X1_compareWholes]) ?_
      exact ih _ _ _ hb
    | 19 =>
      refine By_eq (by rw [y_X1_compareWholes]) ?_
      exact ih _ _ _ hb
    | 20 =>
      refine By_eq (by rw [y_X1_compareWholes]) ?_
      exact By_so hb
    | 21 =>
      refine By_eq (by rw [y_X1_compareWholes]) ?_
      exact ih _ _ _ hb
    | b + 22 =>
      exact By_eq (by rw [y_X1_compareWholes]) By_no
theorem kb_y_X1_compareStrings {P : Prop} : ∀ (k b : Nat) (L : LV) (σ : CS), BY P σ → By P (y_X1_compareStrings k b L σ) := by
  intro k
  induction k with
  | zero => intro b L σ _; exact By_no
  | succ k ih =>
    intro b L σ hb
    match b with
    | 0 =>
      refine By_eq (by rw [y_X1_compareStrings]) ?_
      exact By_ite (ih _ _ _ hb) (ih _ _ _ hb)
    | 1 =>
      refine By_eq (by rw [y_X1_compareStrings]) ?_
      exact By_ite (ih _ _ _ hb) (By_no)
    | 2 =>
      refine By_eq (by rw [y_X1_compareStrings]) ?_
      exact By_ite (ih _ _ _ hb) (ih _ _ _ hb)
    | 3 =>
      refine By_eq (by rw [y_X1_compareStrings]) ?_
      exact By_ite (ih _ _ _ hb) (By_no)
    | 4 =>
      refine By_eq (by rw [y_X1_compareStrings]) ?_
      exact ih _ _ _ hb
    | 5 =>
      refine By_eq (by rw [y_X1_compareStrings]) ?_
      exact By_ite (ih _ _ _ hb) (By_ite (ih _ _ _ hb) (By_ite (ih _ _ _ hb) (ih _ _ _ hb)))
    | 6 =>
      refine By_eq (by rw [y_X1_compareStrings]) ?_
      exact By_ite (ih _ _ _ hb) (ih _ _ _ hb)
    | 7 =>
      refine By_eq (by rw [y_X1_compareStrings]) ?_
      exact By_ite (ih _ _ _ hb) (By_no)
    | 8 =>
      refine By_eq (by rw [y_X1_compareStrings]) ?_
      exact By_ite (ih _ _ _ hb) (ih _ _ _ hb)
    | 9 =>
      refine By_eq (by rw [y_X1_compareStrings]) ?_
      exact By_ite (ih _ _ _ hb) (ih _ _ _ hb)
    | 10 =>
      refine By_eq (by rw [y_X1_compareStrings]) ?_
      exact By_so hb
    | 11 =>
      refine By_eq (by rw [y_X1_compareStrings]) ?_
      exact By_ite (ih _ _ _ hb) (By_no)
    | 12 =>
      refine By_eq (by rw [y_X1_compareStrings]) ?_
      exact By_ite (ih _ _ _ hb) (By_ite (ih _ _ _ hb) (ih _ _ _ hb))
    | 13 =>
      refine By_eq (by rw [y_X1_compareStrings]) ?_
      exact ih _ _ _ hb
    | 14 =>
      refine By_eq (by rw [y_X1_compareStrings]) ?_
      exact ih _ _ _ hb
    | 15 =>
      refine By_eq (by rw [y_X1_compareStrings]) ?_
      exact ih _ _ _ hb
    | 16 =>
      refine By_eq (by rw [y_X1_compareStrings]) ?_
      exact By_so hb
    | b + 17 =>
      exact By_eq (by rw [y_X1_compareStrings]) By_no
theorem kb_t_X1_compare {P : Prop} {X : Nat → Nat → Nat → LV → CS → Option (Int32 × CS)} (hX : ∀ e m b L (σ : CS), BY P σ → By P (X e m b L σ)) (K d b : Nat) (L : LV) (σ : CS) (hb : BY P σ) : By P (t_X1_compare X K d b L σ) := by
  match b with
  | 0 => exact By_ite (By_so hb) (hX _ _ _ _ _ hb)
  | 1 => exact By_ite (hX _ _ _ _ _ hb) (hX _ _ _ _ _ hb)
  | 2 => exact By_ite (hX _ _ _ _ _ hb) (By_no)
  | 3 => exact By_ite (hX _ _ _ _ _ hb) (hX _ _ _ _ _ hb)
  | 4 => exact By_ite (hX _ _ _ _ _ hb) (By_no)
  | 5 => exact By_ite (hX _ _ _ _ _ hb) (By_ite (hX _ _ _ _ _ hb) (hX _ _ _ _ _ hb))
  | 6 => exact By_ite (hX _ _ _ _ _ hb) (By_ite (hX _ _ _ _ _ hb) (By_ite (hX _ _ _ _ _ hb) (hX _ _ _ _ _ hb)))
  | 7 => exact hX _ _ _ _ _ hb
  | 8 => exact By_so hb
  | 9 => exact By_ite (hX _ _ _ _ _ hb) (By_ite (By_oc (kb_y_X1_compareWholes _ _ _ _ hb) (fun _ h25 => hX _ _ _ _ _ h25)) (hX _ _ _ _ _ hb))
  | 10 => exact hX _ _ _ _ _ hb
  | 11 => exact By_so hb
  | 12 => exact By_ite (By_ite (hX _ _ _ _ _ hb) (By_no)) (By_no)
  | 13 => exact By_oc (kb_y_X1_compareStrings _ _ _ _ hb) (fun _ h26 => hX _ _ _ _ _ h26)
  | 14 => exact By_so hb
  | 15 => exact By_ite (hX _ _ _ _ _ hb) (By_ite (hX _ _ _ _ _ hb) (By_ite (By_ite (By_ite (hX _ _ _ _ _ hb) (hX _ _ _ _ _ hb)) (By_no)) (By_no)))
  | 16 => exact By_ite (hX _ _ _ _ _ hb) (hX _ _ _ _ _ hb)
  | 17 => exact By_ite (By_ite (By_oe (fun _ => By_oc (hX _ _ _ _ _ hb) (fun _ h27 => hX _ _ _ _ _ h27))) (By_no)) (By_no)
  | 18 => exact By_ite (hX _ _ _ _ _ hb) (By_so hb)
  | 19 => exact By_ite (hX _ _ _ _ _ hb) (hX _ _ _ _ _ hb)
  | 20 => exact By_so hb
  | 21 => exact hX _ _ _ _ _ hb
  | 22 => exact hX _ _ _ _ _ hb
  | b + 23 => exact By_no
theorem kb_y_H1 {P : Prop} : ∀ (k d m b : Nat) (L : LV) (σ : CS), BY P σ → By P (y_H1 k d m b L σ) := by
  intro k
  induction k with
  | zero => intro d m b L σ _; exact By_no
  | succ k ih =>
    intro d m b L σ hb
    match m with
    | 0 => exact kb_t_X1_compare ih k d b L σ hb
    | m + 1 => exact By_no
theorem kb_y_X1_compare {P : Prop} (k b : Nat) (L : LV) (σ : CS) (hb : BY P σ) : By P (y_X1_compare k b L σ) := kb_y_H1 k 60 0 b L σ hb
theorem kb_y_X0_placeOf {P : Prop} : ∀ (k b : Nat) (L : LV) (σ : CS), BY P σ → By P (y_X0_placeOf k b L σ) := by
  intro k
  induction k with
  | zero => intro b L σ _; exact By_no
  | succ k ih =>
    intro b L σ hb
    match b with
    | 0 =>
      refine By_eq (by rw [y_X0_placeOf]) ?_
      exact By_oc (kb_y_X1_length _ _ _ _ hb) (fun _ h28 => ih _ _ _ h28)
    | 1 =>
      refine By_eq (by rw [y_X0_placeOf]) ?_
      exact By_ite (ih _ _ _ hb) (By_ite (ih _ _ _ hb) (By_oc (kb_y_X1_member _ _ _ _ hb) (fun _ h29 => By_oc (kb_y_X1_compare _ _ _ _ h29) (fun _ h30 => By_ite (ih _ _ _ h30) (ih _ _ _ h30)))))
    | 2 =>
      refine By_eq (by rw [y_X0_placeOf]) ?_
      exact By_so hb
    | 3 =>
      refine By_eq (by rw [y_X0_placeOf]) ?_
      exact ih _ _ _ hb
    | 4 =>
      refine By_eq (by rw [y_X0_placeOf]) ?_
      exact ih _ _ _ hb
    | b + 5 =>
      exact By_eq (by rw [y_X0_placeOf]) By_no
theorem kb_y_X1_same {P : Prop} : ∀ (k b : Nat) (L : LV) (σ : CS), BY P σ → By P (y_X1_same k b L σ) := by
  intro k
  induction k with
  | zero => intro b L σ _; exact By_no
  | succ k ih =>
    intro b L σ hb
    match b with
    | 0 =>
      refine By_eq (by rw [y_X1_same]) ?_
      exact By_ite (ih _ _ _ hb) (By_ite (ih _ _ _ hb) (By_ite (ih _ _ _ hb) (By_ite (By_ite (By_ite (By_oc (kb_y_X1_compare _ _ _ _ hb) (fun _ h31 => By_ite (ih _ _ _ h31) (ih _ _ _ h31))) (ih _ _ _ hb)) (By_no)) (By_no))))
    | 1 =>
      refine By_eq (by rw [y_X1_same]) ?_
      exact ih _ _ _ hb
    | 2 =>
      refine By_eq (by rw [y_X1_same]) ?_
      exact ih _ _ _ hb
    | 3 =>
      refine By_eq (by rw [y_X1_same]) ?_
      exact By_ite (By_so hb) (By_no)
    | b + 4 =>
      exact By_eq (by rw [y_X1_same]) By_no
theorem kb_y_X1_makeRow__a16 {P : Prop} : ∀ (k b : Nat) (L : LV) (σ : CS), BY P σ → By P (y_X1_makeRow__a16 k b L σ) := by
  intro k
  induction k with
  | zero => intro b L σ _; exact By_no
  | succ k ih =>
    intro b L σ hb
    match b with
    | 0 =>
      refine By_eq (by rw [y_X1_makeRow__a16]) ?_
      exact By_ite (ih _ _ _ hb) (By_ite (ih _ _ _ hb) (ih _ _ _ hb))
    | 1 =>
      refine By_eq (by rw [y_X1_makeRow__a16]) ?_
      exact By_ite (ih _ _ _ hb) (ih _ _ _ hb)
    | 2 =>
      refine By_eq (by rw [y_X1_makeRow__a16]) ?_
      exact ih _ _ _ hb
    | 3 =>
      refine By_eq (by rw [y_X1_makeRow__a16]) ?_
      exact By_so hb
    | 4 =>
      refine By_eq (by rw [y_X1_makeRow__a16]) ?_
      exact ih _ _ _ hb
    | 5 =>
      refine By_eq (by rw [y_X1_makeRow__a16]) ?_
      exact ih _ _ _ hb
    | 6 =>
      refine By_eq (by rw [y_X1_makeRow__a16]) ?_
      exact By_ite (ih _ _ _ hb) (By_ite (ih _ _ _ hb) (By_ite (By_ite (ih _ _ _ hb) (By_ite (By_ite (ih _ _ _ hb) (ih _ _ _ hb)) (By_no))) (By_no)))
    | 7 =>
      refine By_eq (by rw [y_X1_makeRow__a16]) ?_
      exact By_ite (ih _ _ _ hb) (By_ite (ih _ _ _ hb) (ih _ _ _ hb))
    | 8 =>
      refine By_eq (by rw [y_X1_makeRow__a16]) ?_
      exact By_ite (ih _ _ _ hb) (By_ite (By_ite (ih _ _ _ hb) (ih _ _ _ hb)) (ih _ _ _ hb))
    | 9 =>
      refine By_eq (by rw [y_X1_makeRow__a16]) ?_
      exact ih _ _ _ hb
    | 10 =>
      refine By_eq (by rw [y_X1_makeRow__a16]) ?_
      exact By_ite (ih _ _ _ hb) (By_ite (ih _ _ _ hb) (ih _ _ _ hb))
    | 11 =>
      refine By_eq (by rw [y_X1_makeRow__a16]) ?_
      exact By_so hb
    | 12 =>
      refine By_eq (by rw [y_X1_makeRow__a16]) ?_
      exact By_ite (ih _ _ _ hb) (By_so hb)
    | 13 =>
      refine By_eq (by rw [y_X1_makeRow__a16]) ?_
      exact ih _ _ _ hb
    | 14 =>
      refine By_eq (by rw [y_X1_makeRow__a16]) ?_
      exact ih _ _ _ hb
    | 15 =>
      refine By_eq (by rw [y_X1_makeRow__a16]) ?_
      exact ih _ _ _ hb
    | 16 =>
      refine By_eq (by rw [y_X1_makeRow__a16]) ?_
      exact ih _ _ _ hb
    | 17 =>
      refine By_eq (by rw [y_X1_makeRow__a16]) ?_
      exact By_ite (ih _ _ _ (BY_I (by decide) hb)) (ih _ _ _ (BY_I (by decide) hb))
    | 18 =>
      refine By_eq (by rw [y_X1_makeRow__a16]) ?_
      exact ih _ _ _ hb
    | 19 =>
      refine By_eq (by rw [y_X1_makeRow__a16]) ?_
      exact ih _ _ _ hb
    | 20 =>
      refine By_eq (by rw [y_X1_makeRow__a16]) ?_
      exact ih _ _ _ hb
    | 21 =>
      refine By_eq (by rw [y_X1_makeRow__a16]) ?_
      exact By_ite (By_ite (By_so (BY_F (by decide) (BY_A (by decide) hb))) (By_no)) (By_no)
    | b + 22 =>
      exact By_eq (by rw [y_X1_makeRow__a16]) By_no
theorem kb_y_X0_union {P : Prop} : ∀ (k b : Nat) (L : LV) (σ : CS), BY P σ → By P (y_X0_union k b L σ) := by
  intro k
  induction k with
  | zero => intro b L σ _; exact By_no
  | succ k ih =>
    intro b L σ hb
    match b with
    | 0 =>
      refine By_eq (by rw [y_X0_union]) ?_
      exact ih _ _ _ hb
    | 1 =>
      refine By_eq (by rw [y_X0_union]) ?_
      exact By_oc (kb_y_X1_length _ _ _ _ hb) (fun _ h32 => By_ite (ih _ _ _ h32) (By_oc (kb_y_X1_member _ _ _ _ h32) (fun _ h33 => By_oc (kb_y_X0_placeOf _ _ _ _ h33) (fun _ h34 => By_oc (kb_y_X0_load _ _ _ _ h34) (fun _ h35 => By_oc (kb_y_X1_length _ _ _ _ h35) (fun _ h36 => By_ite (ih _ _ _ h36) (By_oc (kb_y_X1_member _ _ _ _ h36) (fun _ h37 => By_oc (kb_y_X1_same _ _ _ _ h37) (fun _ h38 => By_ite (ih _ _ _ h38) (ih _ _ _ h38))))))))))
    | 2 =>
      refine By_eq (by rw [y_X0_union]) ?_
      exact By_oc (kb_y_X1_length _ _ _ _ hb) (fun _ h39 => By_oc (kb_y_X0_load _ _ _ _ h39) (fun _ h40 => By_oc (kb_y_X1_makeRow__a16 _ _ _ _ h40) (fun _ h41 => By_so h41)))
    | 3 =>
      refine By_eq (by rw [y_X0_union]) ?_
      exact By_ite (ih _ _ _ hb) (By_ite (ih _ _ _ (BY_A (by decide) hb)) (By_no))
    | 4 =>
      refine By_eq (by rw [y_X0_union]) ?_
      exact ih _ _ _ hb
    | b + 5 =>
      exact By_eq (by rw [y_X0_union]) By_no
theorem kb_y_X1_makeTuple__a16 {P : Prop} : ∀ (k b : Nat) (L : LV) (σ : CS), BY P σ → By P (y_X1_makeTuple__a16 k b L σ) := by
  intro k
  induction k with
  | zero => intro b L σ _; exact By_no
  | succ k ih =>
    intro b L σ hb
    match b with
    | 0 =>
      refine By_eq (by rw [y_X1_makeTuple__a16]) ?_
      exact ih _ _ _ hb
    | 1 =>
      refine By_eq (by rw [y_X1_makeTuple__a16]) ?_
      exact By_ite (ih _ _ _ hb) (By_ite (By_ite (ih _ _ _ hb) (ih _ _ _ hb)) (By_no))
    | 2 =>
      refine By_eq (by rw [y_X1_makeTuple__a16]) ?_
      exact By_oc (kb_y_X1_makeRow__a16 _ _ _ _ hb) (fun _ h42 => By_so h42)
    | b + 3 =>
      exact By_eq (by rw [y_X1_makeTuple__a16]) By_no
theorem kb_y_X0_sum {P : Prop} : ∀ (k b : Nat) (L : LV) (σ : CS), BY P σ → By P (y_X0_sum k b L σ) := by
  intro k
  induction k with
  | zero => intro b L σ _; exact By_no
  | succ k ih =>
    intro b L σ hb
    match b with
    | 0 =>
      refine By_eq (by rw [y_X0_sum]) ?_
      exact By_oc (kb_y_X1_kind _ _ _ _ hb) (fun _ h43 => By_oc (kb_y_X1_kind _ _ _ _ h43) (fun _ h44 => By_ite (ih _ _ _ h44) (By_so h44)))
    | 1 =>
      refine By_eq (by rw [y_X0_sum]) ?_
      exact By_ite (ih _ _ _ hb) (By_ite (ih _ _ _ hb) (By_ite (ih _ _ _ hb) (By_ite (ih _ _ _ hb) (By_ite (ih _ _ _ hb) (ih _ _ _ hb)))))
    | 2 =>
      refine By_eq (by rw [y_X0_sum]) ?_
      exact By_oc (kb_y_X10_added _ _ _ _ hb) (fun _ h45 => By_so h45)
    | 3 =>
      refine By_eq (by rw [y_X0_sum]) ?_
      exact By_so hb
    | 4 =>
      refine By_eq (by rw [y_X0_sum]) ?_
      exact By_oc (kb_y_X0_joined _ _ _ _ hb) (fun _ h46 => By_so h46)
    | 5 =>
      refine By_eq (by rw [y_X0_sum]) ?_
      exact By_oc (kb_y_X1_length _ _ _ _ hb) (fun _ h47 => By_oc (kb_y_X0_load _ _ _ _ h47) (fun _ h48 => By_oc (kb_y_X1_length _ _ _ _ h48) (fun _ h49 => By_oc (kb_y_X0_load _ _ _ _ h49) (fun _ h50 => By_oc (kb_y_X1_makeTuple__a16 _ _ _ _ h50) (fun _ h51 => By_so h51)))))
    | 6 =>
      refine By_eq (by rw [y_X0_sum]) ?_
      exact By_oc (kb_y_X1_length _ _ _ _ hb) (fun _ h52 => By_oc (kb_y_X1_length _ _ _ _ h52) (fun _ h53 => By_ite (ih _ _ _ h53) (By_oc (kb_y_X0_union _ _ _ _ h53) (fun _ h54 => ih _ _ _ h54))))
    | 7 =>
      refine By_eq (by rw [y_X0_sum]) ?_
      exact By_oc (kb_y_X0_union _ _ _ _ hb) (fun _ h55 => ih _ _ _ h55)
    | 8 =>
      refine By_eq (by rw [y_X0_sum]) ?_
      exact By_so hb
    | b + 9 =>
      exact By_eq (by rw [y_X0_sum]) By_no
theorem kb_y_X0_areWholes {P : Prop} : ∀ (k b : Nat) (L : LV) (σ : CS), BY P σ → By P (y_X0_areWholes k b L σ) := by
  intro k
  induction k with
  | zero => intro b L σ _; exact By_no
  | succ k ih =>
    intro b L σ hb
    match b with
    | 0 =>
      refine By_eq (by rw [y_X0_areWholes]) ?_
      exact By_oc (kb_y_X1_kind _ _ _ _ hb) (fun _ h56 => By_ite (By_oc (kb_y_X1_kind _ _ _ _ h56) (fun _ h57 => By_ite (ih _ _ _ h57) (ih _ _ _ h57))) (ih _ _ _ h56))
    | 1 =>
      refine By_eq (by rw [y_X0_areWholes]) ?_
      exact ih _ _ _ hb
    | 2 =>
      refine By_eq (by rw [y_X0_areWholes]) ?_
      exact By_ite (By_so hb) (By_no)
    | b + 3 =>
      exact By_eq (by rw [y_X0_areWholes]) By_no
theorem kb_y_X0_areSets {P : Prop} : ∀ (k b : Nat) (L : LV) (σ : CS), BY P σ → By P (y_X0_areSets k b L σ) := by
  intro k
  induction k with
  | zero => intro b L σ _; exact By_no
  | succ k ih =>
    intro b L σ hb
    match b with
    | 0 =>
      refine By_eq (by rw [y_X0_areSets]) ?_
      exact By_oc (kb_y_X1_kind _ _ _ _ hb) (fun _ h58 => By_ite (By_oc (kb_y_X1_kind _ _ _ _ h58) (fun _ h59 => By_ite (ih _ _ _ h59) (ih _ _ _ h59))) (ih _ _ _ h58))
    | 1 =>
      refine By_eq (by rw [y_X0_areSets]) ?_
      exact ih _ _ _ hb
    | 2 =>
      refine By_eq (by rw [y_X0_areSets]) ?_
      exact By_ite (By_so hb) (By_no)
    | b + 3 =>
      exact By_eq (by rw [y_X0_areSets]) By_no
theorem kb_y_X0_chosen {P : Prop} : ∀ (k b : Nat) (L : LV) (σ : CS), BY P σ → By P (y_X0_chosen k b L σ) := by
  intro k
  induction k with
  | zero => intro b L σ _; exact By_no
  | succ k ih =>
    intro b L σ hb
    match b with
    | 0 =>
      refine By_eq (by rw [y_X0_chosen]) ?_
      exact ih _ _ _ hb
    | 1 =>
      refine By_eq (by rw [y_X0_chosen]) ?_
      exact By_oc (kb_y_X1_length _ _ _ _ hb) (fun _ h60 => By_ite (ih _ _ _ h60) (By_ite (ih _ _ _ h60) (By_oc (kb_y_X1_member _ _ _ _ h60) (fun _ h61 => By_oc (kb_y_X0_placeOf _ _ _ _ h61) (fun _ h62 => By_oc (kb_y_X1_length _ _ _ _ h62) (fun _ h63 => By_ite (ih _ _ _ h63) (By_oc (kb_y_X1_member _ _ _ _ h63) (fun _ h64 => By_oc (kb_y_X1_same _ _ _ _ h64) (fun _ h65 => By_ite (ih _ _ _ h65) (ih _ _ _ h65))))))))))
    | 2 =>
      refine By_eq (by rw [y_X0_chosen]) ?_
      exact By_oc (kb_y_X1_makeRow__a16 _ _ _ _ hb) (fun _ h66 => By_so h66)
    | 3 =>
      refine By_eq (by rw [y_X0_chosen]) ?_
      exact ih _ _ _ hb
    | 4 =>
      refine By_eq (by rw [y_X0_chosen]) ?_
      exact By_ite (By_ite (ih _ _ _ (BY_A (by decide) hb)) (By_no)) (ih _ _ _ hb)
    | 5 =>
      refine By_eq (by rw [y_X0_chosen]) ?_
      exact ih _ _ _ hb
    | b + 6 =>
      exact By_eq (by rw [y_X0_chosen]) By_no
theorem kb_y_X0_without {P : Prop} : ∀ (k b : Nat) (L : LV) (σ : CS), BY P σ → By P (y_X0_without k b L σ) := by
  intro k
  induction k with
  | zero => intro b L σ _; exact By_no
  | succ k ih =>
    intro b L σ hb
    match b with
    | 0 =>
      refine By_eq (by rw [y_X0_without]) ?_
      exact ih _ _ _ hb
    | 1 =>
      refine By_eq (by rw [y_X0_without]) ?_
      exact By_oc (kb_y_X1_length _ _ _ _ hb) (fun _ h67 => By_ite (ih _ _ _ h67) (By_oc (kb_y_X1_member _ _ _ _ h67) (fun _ h68 => By_oc (kb_y_X0_placeOf _ _ _ _ h68) (fun _ h69 => By_oc (kb_y_X0_load _ _ _ _ h69) (fun _ h70 => By_oc (kb_y_X1_length _ _ _ _ h70) (fun _ h71 => By_ite (ih _ _ _ h71) (By_oc (kb_y_X1_member _ _ _ _ h71) (fun _ h72 => By_oc (kb_y_X1_same _ _ _ _ h72) (fun _ h73 => By_ite (ih _ _ _ h73) (ih _ _ _ h73))))))))))
    | 2 =>
      refine By_eq (by rw [y_X0_without]) ?_
      exact By_oc (kb_y_X1_length _ _ _ _ hb) (fun _ h74 => By_oc (kb_y_X0_load _ _ _ _ h74) (fun _ h75 => By_oc (kb_y_X1_makeRow__a16 _ _ _ _ h75) (fun _ h76 => By_so h76)))
    | 3 =>
      refine By_eq (by rw [y_X0_without]) ?_
      exact ih _ _ _ hb
    | 4 =>
      refine By_eq (by rw [y_X0_without]) ?_
      exact ih _ _ _ hb
    | b + 5 =>
      exact By_eq (by rw [y_X0_without]) By_no
theorem kb_y_X0_difference {P : Prop} : ∀ (k b : Nat) (L : LV) (σ : CS), BY P σ → By P (y_X0_difference k b L σ) := by
  intro k
  induction k with
  | zero => intro b L σ _; exact By_no
  | succ k ih =>
    intro b L σ hb
    match b with
    | 0 =>
      refine By_eq (by rw [y_X0_difference]) ?_
      exact By_oc (kb_y_X0_areWholes _ _ _ _ hb) (fun _ h77 => By_ite (ih _ _ _ h77) (By_oc (kb_y_X10_added _ _ _ _ h77) (fun _ h78 => By_so h78)))
    | 1 =>
      refine By_eq (by rw [y_X0_difference]) ?_
      exact By_oc (kb_y_X0_areSets _ _ _ _ hb) (fun _ h79 => By_ite (By_so h79) (ih _ _ _ h79))
    | 2 =>
      refine By_eq (by rw [y_X0_difference]) ?_
      exact By_oc (kb_y_X1_length _ _ _ _ hb) (fun _ h80 => By_oc (kb_y_X1_length _ _ _ _ h80) (fun _ h81 => By_ite (ih _ _ _ h81) (By_oc (kb_y_X0_chosen _ _ _ _ h81) (fun _ h82 => ih _ _ _ h82))))
    | 3 =>
      refine By_eq (by rw [y_X0_difference]) ?_
      exact By_oc (kb_y_X0_without _ _ _ _ hb) (fun _ h83 => ih _ _ _ h83)
    | 4 =>
      refine By_eq (by rw [y_X0_difference]) ?_
      exact By_so hb
    | b + 5 =>
      exact By_eq (by rw [y_X0_difference]) By_no
theorem kb_y_X10_product {P : Prop} : ∀ (k b : Nat) (L : LV) (σ : CS), BY P σ → By P (y_X10_product k b L σ) := by
  intro k
  induction k with
  | zero => intro b L σ _; exact By_no
  | succ k ih =>
    intro b L σ hb
    match b with
    | 0 =>
      refine By_eq (by rw [y_X10_product]) ?_
      exact By_ite (ih _ _ _ hb) (By_ite (ih _ _ _ hb) (By_oc (kb_y_X10_of _ _ _ _ hb) (fun _ h84 => By_so h84)))
    | 1 =>
      refine By_eq (by rw [y_X10_product]) ?_
      exact By_oc (kb_y_X10_load__a5 _ _ _ _ hb) (fun _ h85 => By_oc (kb_y_X10_load__a6 _ _ _ _ h85) (fun _ h86 => By_ite (ih _ _ _ h86) (By_ite (ih _ _ _ h86) (By_ite (ih _ _ _ h86) (ih _ _ _ h86)))))
    | 2 =>
      refine By_eq (by rw [y_X10_product]) ?_
      exact ih _ _ _ hb
    | 3 =>
      refine By_eq (by rw [y_X10_product]) ?_
      exact ih _ _ _ hb
    | 4 =>
      refine By_eq (by rw [y_X10_product]) ?_
      exact ih _ _ _ hb
    | 5 =>
      refine By_eq (by rw [y_X10_product]) ?_
      exact By_ite (ih _ _ _ hb) (By_ite (ih _ _ _ (BY_A (by decide) hb)) (By_no))
    | 6 =>
      refine By_eq (by rw [y_X10_product]) ?_
      exact By_so hb
    | 7 =>
      refine By_eq (by rw [y_X10_product]) ?_
      exact ih _ _ _ hb
    | 8 =>
      refine By_eq (by rw [y_X10_product]) ?_
      exact By_ite (ih _ _ _ hb) (By_ite (ih _ _ _ hb) (By_no))
    | 9 =>
      refine By_eq (by rw [y_X10_product]) ?_
      exact By_oc (kb_y_X10_isBelow _ _ _ _ hb) (fun _ h87 => By_oc (kb_y_X10_isBelow _ _ _ _ h87) (fun _ h88 => By_ite (ih _ _ _ h88) (ih _ _ _ h88)))
    | 10 =>
      refine By_eq (by rw [y_X10_product]) ?_
      exact By_ite (ih _ _ _ hb) (By_ite (By_ite (By_ite (ih _ _ _ (BY_A (by decide) hb)) (By_no)) (By_no)) (By_no))
    | 11 =>
      refine By_eq (by rw [y_X10_product]) ?_
      exact ih _ _ _ hb
    | 12 =>
      refine By_eq (by rw [y_X10_product]) ?_
      exact By_oc (kb_y_X10_made _ _ _ _ hb) (fun _ h89 => By_so h89)
    | 13 =>
      refine By_eq (by rw [y_X10_product]) ?_
      exact By_ite (ih _ _ _ (BY_A (by decide) hb)) (By_no)
    | b + 14 =>
      exact By_eq (by rw [y_X10_product]) By_no
theorem kb_y_X10_clamped {P : Prop} : ∀ (k b : Nat) (L : LV) (σ : CS), BY P σ → By P (y_X10_clamped k b L σ) := by
  intro k
  induction k with
  | zero => intro b L σ _; exact By_no
  | succ k ih =>
    intro b L σ hb
    match b with
    | 0 =>
      refine By_eq (by rw [y_X10_clamped]) ?_
      exact By_ite (ih _ _ _ hb) (By_so hb)
    | 1 =>
      refine By_eq (by rw [y_X10_clamped]) ?_
      exact By_ite (By_ite (ih _ _ _ hb) (ih _ _ _ hb)) (By_no)
    | 2 =>
      refine By_eq (by rw [y_X10_clamped]) ?_
      exact ih _ _ _ hb
    | 3 =>
      refine By_eq (by rw [y_X10_clamped]) ?_
      exact By_so hb
    | b + 4 =>
      exact By_eq (by rw [y_X10_clamped]) By_no
theorem kb_y_X0_repeated {P : Prop} : ∀ (k b : Nat) (L : LV) (σ : CS), BY P σ → By P (y_X0_repeated k b L σ) := by
  intro k
  induction k with
  | zero => intro b L σ _; exact By_no
  | succ k ih =>
    intro b L σ hb
    match b with
    | 0 =>
      refine By_eq (by rw [y_X0_repeated]) ?_
      exact By_oc (kb_y_X1_length _ _ _ _ hb) (fun _ h90 => By_ite (ih _ _ _ h90) (By_ite (ih _ _ _ h90) (ih _ _ _ h90)))
    | 1 =>
      refine By_eq (by rw [y_X0_repeated]) ?_
      exact By_ite (ih _ _ _ hb) (ih _ _ _ hb)
    | 2 =>
      refine By_eq (by rw [y_X0_repeated]) ?_
      exact By_ite (ih _ _ _ hb) (ih _ _ _ hb)
    | 3 =>
      refine By_eq (by rw [y_X0_repeated]) ?_
      exact ih _ _ _ hb
    | 4 =>
      refine By_eq (by rw [y_X0_repeated]) ?_
      exact By_so hb
    | 5 =>
      refine By_eq (by rw [y_X0_repeated]) ?_
      exact ih _ _ _ hb
    | 6 =>
      refine By_eq (by rw [y_X0_repeated]) ?_
      exact By_ite (ih _ _ _ hb) (By_so hb)
    | 7 =>
      refine By_eq (by rw [y_X0_repeated]) ?_
      exact ih _ _ _ hb
    | 8 =>
      refine By_eq (by rw [y_X0_repeated]) ?_
      exact By_ite (ih _ _ _ hb) (By_ite (By_oc (kb_y_X1_copyBytes__a15 _ _ _ _ hb) (fun _ h91 => ih _ _ _ h91)) (ih _ _ _ hb))
    | 9 =>
      refine By_eq (by rw [y_X0_repeated]) ?_
      exact By_ite (By_oc (kb_y_X1_makeString__a15 _ _ _ _ hb) (fun _ h92 => ih _ _ _ h92)) (ih _ _ _ hb)
    | 10 =>
      refine By_eq (by rw [y_X0_repeated]) ?_
      exact By_oc (kb_y_X0_load _ _ _ _ hb) (fun _ h93 => ih _ _ _ h93)
    | 11 =>
      refine By_eq (by rw [y_X0_repeated]) ?_
      exact ih _ _ _ hb
    | 12 =>
      refine By_eq (by rw [y_X0_repeated]) ?_
      exact By_oc (kb_y_X1_makeTuple__a16 _ _ _ _ hb) (fun _ h94 => ih _ _ _ h94)
    | 13 =>
      refine By_eq (by rw [y_X0_repeated]) ?_
      exact By_so hb
    | b + 14 =>
      exact By_eq (by rw [y_X0_repeated]) By_no
theorem kb_y_X0_product {P : Prop} : ∀ (k b : Nat) (L : LV) (σ : CS), BY P σ → By P (y_X0_product k b L σ) := by
  intro k
  induction k with
  | zero => intro b L σ _; exact By_no
  | succ k ih =>
    intro b L σ hb
    match b with
    | 0 =>
      refine By_eq (by rw [y_X0_product]) ?_
      exact By_oc (kb_y_X0_areWholes _ _ _ _ hb) (fun _ h95 => By_ite (ih _ _ _ h95) (By_oc (kb_y_X10_product _ _ _ _ h95) (fun _ h96 => By_so h96)))
    | 1 =>
      refine By_eq (by rw [y_X0_product]) ?_
      exact By_oc (kb_y_X0_areSets _ _ _ _ hb) (fun _ h97 => By_ite (ih _ _ _ h97) (By_oc (kb_y_X1_length _ _ _ _ h97) (fun _ h98 => By_oc (kb_y_X1_length _ _ _ _ h98) (fun _ h99 => By_ite (ih _ _ _ h99) (By_oc (kb_y_X0_chosen _ _ _ _ h99) (fun _ h100 => ih _ _ _ h100))))))
    | 2 =>
      refine By_eq (by rw [y_X0_product]) ?_
      exact By_oc (kb_y_X1_kind _ _ _ _ hb) (fun _ h101 => By_oc (kb_y_X1_kind _ _ _ _ h101) (fun _ h102 => By_ite (By_ite (ih _ _ _ h102) (By_ite (ih _ _ _ h102) (ih _ _ _ h102))) (ih _ _ _ h102)))
    | 3 =>
      refine By_eq (by rw [y_X0_product]) ?_
      exact By_oc (kb_y_X0_chosen _ _ _ _ hb) (fun _ h103 => ih _ _ _ h103)
    | 4 =>
      refine By_eq (by rw [y_X0_product]) ?_
      exact By_so hb
    | 5 =>
      refine By_eq (by rw [y_X0_product]) ?_
      exact By_so hb
    | 6 =>
      refine By_eq (by rw [y_X0_product]) ?_
      exact By_oc (kb_y_X10_isBelow _ _ _ _ hb) (fun _ h104 => By_ite (ih _ _ _ h104) (ih _ _ _ h104))
    | 7 =>
      refine By_eq (by rw [y_X0_product]) ?_
      exact By_oc (kb_y_X10_clamped _ _ _ _ hb) (fun _ h105 => By_oc (kb_y_X0_repeated _ _ _ _ h105) (fun _ h106 => ih _ _ _ h106))
    | 8 =>
      refine By_eq (by rw [y_X0_product]) ?_
      exact By_so hb
    | b + 9 =>
      exact By_eq (by rw [y_X0_product]) By_no
theorem kb_y_X10_number {P : Prop} : ∀ (k b : Nat) (L : LV) (σ : CS), BY P σ → By P (y_X10_number k b L σ) := by
  intro k
  induction k with
  | zero => intro b L σ _; exact By_no
  | succ k ih =>
    intro b L σ hb
    match b with
    | 0 =>
      refine By_eq (by rw [y_X10_number]) ?_
      exact By_so hb
    | b + 1 =>
      exact By_eq (by rw [y_X10_number]) By_no
theorem kb_y_X10_dividedSmall {P : Prop} : ∀ (k b : Nat) (L : LV) (σ : CS), BY P σ → By P (y_X10_dividedSmall k b L σ) := by
  intro k
  induction k with
  | zero => intro b L σ _; exact By_no
  | succ k ih =>
    intro b L σ hb
    match b with
    | 0 =>
      refine By_eq (by rw [y_X10_dividedSmall]) ?_
      exact By_ite (By_so hb) (ih _ _ _ hb)
    | 1 =>
      refine By_eq (by rw [y_X10_dividedSmall]) ?_
      exact By_ite (By_no) (By_ite (ih _ _ _ hb) (By_ite (ih _ _ _ hb) (ih _ _ _ hb)))
    | 2 =>
      refine By_eq (by rw [y_X10_dividedSmall]) ?_
      exact By_ite (ih _ _ _ hb) (ih _ _ _ hb)
    | 3 =>
      refine By_eq (by rw [y_X10_dividedSmall]) ?_
      exact ih _ _ _ hb
    | 4 =>
      refine By_eq (by rw [y_X10_dividedSmall]) ?_
      exact ih _ _ _ hb
    | 5 =>
      refine By_eq (by rw [y_X10_dividedSmall]) ?_
      exact By_ite (By_no) (ih _ _ _ hb)
    | 6 =>
      refine By_eq (by rw [y_X10_dividedSmall]) ?_
      exact By_oc (kb_y_X10_of _ _ _ _ hb) (fun _ h107 => By_so h107)
    | b + 7 =>
      exact By_eq (by rw [y_X10_dividedSmall]) By_no
theorem kb_y_X10_addBack {P : Prop} : ∀ (k b : Nat) (L : LV) (σ : CS), BY P σ → By P (y_X10_addBack k b L σ) := by
  intro k
  induction k with
  | zero => intro b L σ _; exact By_no
  | succ k ih =>
    intro b L σ hb
    match b with
    | 0 =>
      refine By_eq (by rw [y_X10_addBack]) ?_
      exact ih _ _ _ hb
    | 1 =>
      refine By_eq (by rw [y_X10_addBack]) ?_
      exact By_ite (ih _ _ _ hb) (By_ite (By_ite (By_ite (ih _ _ _ (BY_A (by decide) hb)) (By_no)) (By_no)) (By_no))
    | 2 =>
      refine By_eq (by rw [y_X10_addBack]) ?_
      exact By_ite (By_ite (By_so (BY_A (by decide) hb)) (By_no)) (By_no)
    | b + 3 =>
      exact By_eq (by rw [y_X10_addBack]) By_no
theorem kb_y_X10_quotientDigit {P : Prop} : ∀ (k b : Nat) (L : LV) (σ : CS), BY P σ → By P (y_X10_quotientDigit k b L σ) := by
  intro k
  induction k with
  | zero => intro b L σ _; exact By_no
  | succ k ih =>
    intro b L σ hb
    match b with
    | 0 =>
      refine By_eq (by rw [y_X10_quotientDigit]) ?_
      exact By_ite (ih _ _ _ hb) (By_ite (ih _ _ _ hb) (By_no))
    | 1 =>
      refine By_eq (by rw [y_X10_quotientDigit]) ?_
      exact ih _ _ _ hb
    | 2 =>
      refine By_eq (by rw [y_X10_quotientDigit]) ?_
      exact By_ite (By_so hb) (ih _ _ _ hb)
    | 3 =>
      refine By_eq (by rw [y_X10_quotientDigit]) ?_
      exact By_ite (ih _ _ _ hb) (By_ite (ih _ _ _ hb) (By_no))
    | 4 =>
      refine By_eq (by rw [y_X10_quotientDigit]) ?_
      exact ih _ _ _ hb
    | 5 =>
      refine By_eq (by rw [y_X10_quotientDigit]) ?_
      exact By_ite (ih _ _ _ hb) (By_ite (ih _ _ _ hb) (By_no))
    | 6 =>
      refine By_eq (by rw [y_X10_quotientDigit]) ?_
      exact ih _ _ _ hb
    | 7 =>
      refine By_eq (by rw [y_X10_quotientDigit]) ?_
      exact By_ite (By_ite (By_ite (By_no) (ih _ _ _ hb)) (By_no)) (By_no)
    | 8 =>
      refine By_eq (by rw [y_X10_quotientDigit]) ?_
      exact By_ite (ih _ _ _ hb) (By_ite (ih _ _ _ hb) (By_ite (ih _ _ _ hb) (By_ite (ih _ _ _ hb) (ih _ _ _ hb))))
    | 9 =>
      refine By_eq (by rw [y_X10_quotientDigit]) ?_
      exact ih _ _ _ hb
    | 10 =>
      refine By_eq (by rw [y_X10_quotientDigit]) ?_
      exact ih _ _ _ hb
    | 11 =>
      refine By_eq (by rw [y_X10_quotientDigit]) ?_
      exact By_ite (ih _ _ _ hb) (By_ite (By_ite (By_ite (ih _ _ _ (BY_A (by decide) hb)) (By_no)) (By_no)) (By_no))
    | 12 =>
      refine By_eq (by rw [y_X10_quotientDigit]) ?_
      exact By_ite (By_ite (By_ite (ih _ _ _ (BY_A (by decide) hb)) (By_oc (kb_y_X10_addBack _ _ _ _ (BY_A (by decide) hb)) (fun _ h108 => ih _ _ _ h108))) (By_no)) (By_no)
    | 13 =>
      refine By_eq (by rw [y_X10_quotientDigit]) ?_
      exact By_so hb
    | b + 14 =>
      exact By_eq (by rw [y_X10_quotientDigit]) By_no
theorem kb_y_J7_fill_53178__a10 {P : Prop} : ∀ (k b : Nat) (L : LV) (σ : CS), BY P σ → By P (y_J7_fill_53178__a10 k b L σ) := by
  intro k
  induction k with
  | zero => intro b L σ _; exact By_no
  | succ k ih =>
    intro b L σ hb
    match b with
    | 0 =>
      refine By_eq (by rw [y_J7_fill_53178__a10]) ?_
      exact ih _ _ _ hb
    | 1 =>
      refine By_eq (by rw [y_J7_fill_53178__a10]) ?_
      exact By_ite (ih _ _ _ hb) (By_ite (ih _ _ _ (BY_A (by decide) hb)) (By_no))
    | 2 =>
      refine By_eq (by rw [y_J7_fill_53178__a10]) ?_
      exact By_so hb
    | b + 3 =>
      exact By_eq (by rw [y_J7_fill_53178__a10]) By_no
theorem kb_y_J7_fill_53178__a8 {P : Prop} : ∀ (k b : Nat) (L : LV) (σ : CS), BY P σ → By P (y_J7_fill_53178__a8 k b L σ) := by
  intro k
  induction k with
  | zero => intro b L σ _; exact By_no
  | succ k ih =>
    intro b L σ hb
    match b with
    | 0 =>
      refine By_eq (by rw [y_J7_fill_53178__a8]) ?_
      exact ih _ _ _ hb
    | 1 =>
      refine By_eq (by rw [y_J7_fill_53178__a8]) ?_
      exact By_ite (ih _ _ _ hb) (By_ite (ih _ _ _ (BY_A (by decide) hb)) (By_no))
    | 2 =>
      refine By_eq (by rw [y_J7_fill_53178__a8]) ?_
      exact By_so hb
    | b + 3 =>
      exact By_eq (by rw [y_J7_fill_53178__a8]) By_no
theorem kb_y_J7_fill_53178__a9 {P : Prop} : ∀ (k b : Nat) (L : LV) (σ : CS), BY P σ → By P (y_J7_fill_53178__a9 k b L σ) := by
  intro k
  induction k with
  | zero => intro b L σ _; exact By_no
  | succ k ih =>
    intro b L σ hb
    match b with
    | 0 =>
      refine By_eq (by rw [y_J7_fill_53178__a9]) ?_
      exact ih _ _ _ hb
    | 1 =>
      refine By_eq (by rw [y_J7_fill_53178__a9]) ?_
      exact By_ite (ih _ _ _ hb) (By_ite (ih _ _ _ (BY_A (by decide) hb)) (By_no))
    | 2 =>
      refine By_eq (by rw [y_J7_fill_53178__a9]) ?_
      exact By_so hb
    | b + 3 =>
      exact By_eq (by rw [y_J7_fill_53178__a9]) By_no
theorem kb_y_X10_shiftUp__a8 {P : Prop} : ∀ (k b : Nat) (L : LV) (σ : CS), BY P σ → By P (y_X10_shiftUp__a8 k b L σ) := by
  intro k
  induction k with
  | zero => intro b L σ _; exact By_no
  | succ k ih =>
    intro b L σ hb
    match b with
    | 0 =>
      refine By_eq (by rw [y_X10_shiftUp__a8]) ?_
      exact ih _ _ _ hb
    | 1 =>
      refine By_eq (by rw [y_X10_shiftUp__a8]) ?_
      exact By_ite (ih _ _ _ hb) (By_ite (By_ite (ih _ _ _ (BY_A (by decide) hb)) (By_no)) (By_no))
    | 2 =>
      refine By_eq (by rw [y_X10_shiftUp__a8]) ?_
      exact By_so hb
    | b + 3 =>
      exact By_eq (by rw [y_X10_shiftUp__a8]) By_no
theorem kb_y_X10_shiftUp__a9 {P : Prop} : ∀ (k b : Nat) (L : LV) (σ : CS), BY P σ → By P (y_X10_shiftUp__a9 k b L σ) := by
  intro k
  induction k with
  | zero => intro b L σ _; exact By_no
  | succ k ih =>
    intro b L σ hb
    match b with
    | 0 =>
      refine By_eq (by rw [y_X10_shiftUp__a9]) ?_
      exact ih _ _ _ hb
    | 1 =>
      refine By_eq (by rw [y_X10_shiftUp__a9]) ?_
      exact By_ite (ih _ _ _ hb) (By_ite (By_ite (ih _ _ _ (BY_A (by decide) hb)) (By_no)) (By_no))
    | 2 =>
      refine By_eq (by rw [y_X10_shiftUp__a9]) ?_
      exact By_so hb
    | b + 3 =>
      exact By_eq (by rw [y_X10_shiftUp__a9]) By_no
theorem kb_y_X10_shiftDown__a8 {P : Prop} : ∀ (k b : Nat) (L : LV) (σ : CS), BY P σ → By P (y_X10_shiftDown__a8 k b L σ) := by
  intro k
  induction k with
  | zero => intro b L σ _; exact By_no
  | succ k ih =>
    intro b L σ hb
    match b with
    | 0 =>
      refine By_eq (by rw [y_X10_shiftDown__a8]) ?_
      exact ih _ _ _ hb
    | 1 =>
      refine By_eq (by rw [y_X10_shiftDown__a8]) ?_
      exact By_ite (ih _ _ _ hb) (By_ite (By_ite (By_ite (ih _ _ _ (BY_A (by decide) hb)) (By_no)) (By_no)) (By_no))
    | 2 =>
      refine By_eq (by rw [y_X10_shiftDown__a8]) ?_
      exact By_so hb
    | b + 3 =>
      exact By_eq (by rw [y_X10_shiftDown__a8]) By_no
theorem kb_y_X10_divideLimbs {P : Prop} : ∀ (k b : Nat) (L : LV) (σ : CS), BY P σ → By P (y_X10_divideLimbs k b L σ) := by
  intro k
  induction k with
  | zero => intro b L σ _; exact By_no
  | succ k ih =>
    intro b L σ hb
    match b with
    | 0 =>
      refine By_eq (by rw [y_X10_divideLimbs]) ?_
      exact By_oc (kb_y_J7_fill_53178__a10 _ _ _ _ hb) (fun _ h109 => By_oc (kb_y_J7_fill_53178__a8 _ _ _ _ h109) (fun _ h110 => By_oc (kb_y_J7_fill_53178__a9 _ _ _ _ h110) (fun _ h111 => ih _ _ _ h111)))
    | 1 =>
      refine By_eq (by rw [y_X10_divideLimbs]) ?_
      exact ih _ _ _ hb
    | 2 =>
      refine By_eq (by rw [y_X10_divideLimbs]) ?_
      exact By_ite (ih _ _ _ hb) (By_ite (By_ite (By_ite (By_ite (ih _ _ _ (BY_A (by decide) (BY_A (by decide) hb))) (By_no)) (By_no)) (By_no)) (By_no))
    | 3 =>
      refine By_eq (by rw [y_X10_divideLimbs]) ?_
      exact ih _ _ _ hb
    | 4 =>
      refine By_eq (by rw [y_X10_divideLimbs]) ?_
      exact By_ite (ih _ _ _ hb) (By_ite (By_ite (By_ite (By_ite (ih _ _ _ (BY_A (by decide) (BY_A (by decide) hb))) (By_no)) (By_no)) (By_no)) (By_no))
    | 5 =>
      refine By_eq (by rw [y_X10_divideLimbs]) ?_
      exact By_ite (ih _ _ _ hb) (By_ite (By_ite (ih _ _ _ hb) (ih _ _ _ hb)) (By_no))
    | 6 =>
      refine By_eq (by rw [y_X10_divideLimbs]) ?_
      exact ih _ _ _ hb
    | 7 =>
      refine By_eq (by rw [y_X10_divideLimbs]) ?_
      exact By_ite (ih _ _ _ hb) (By_ite (ih _ _ _ hb) (By_ite (By_ite (ih _ _ _ hb) (ih _ _ _ hb)) (By_no)))
    | 8 =>
      refine By_eq (by rw [y_X10_divideLimbs]) ?_
      exact By_oc (kb_y_X10_shiftUp__a8 _ _ _ _ hb) (fun _ h112 => By_oc (kb_y_X10_shiftUp__a9 _ _ _ _ h112) (fun _ h113 => ih _ _ _ h113))
    | 9 =>
      refine By_eq (by rw [y_X10_divideLimbs]) ?_
      exact By_ite (ih _ _ _ hb) (By_oc (kb_y_X10_quotientDigit _ _ _ _ hb) (fun _ h114 => By_ite (ih _ _ _ (BY_A (by decide) h114)) (By_no)))
    | 10 =>
      refine By_eq (by rw [y_X10_divideLimbs]) ?_
      exact By_oc (kb_y_X10_shiftDown__a8 _ _ _ _ hb) (fun _ h115 => ih _ _ _ h115)
    | 11 =>
      refine By_eq (by rw [y_X10_divideLimbs]) ?_
      exact By_ite (ih _ _ _ hb) (By_ite (By_ite (ih _ _ _ hb) (ih _ _ _ hb)) (By_no))
    | 12 =>
      refine By_eq (by rw [y_X10_divideLimbs]) ?_
      exact By_so hb
    | 13 =>
      refine By_eq (by rw [y_X10_divideLimbs]) ?_
      exact ih _ _ _ hb
    | 14 =>
      refine By_eq (by rw [y_X10_divideLimbs]) ?_
      exact ih _ _ _ hb
    | b + 15 =>
      exact By_eq (by rw [y_X10_divideLimbs]) By_no
theorem kb_y_X10_unpackRest {P : Prop} : ∀ (k b : Nat) (L : LV) (σ : CS), BY P σ → By P (y_X10_unpackRest k b L σ) := by
  intro k
  induction k with
  | zero => intro b L σ _; exact By_no
  | succ k ih =>
    intro b L σ hb
    match b with
    | 0 =>
      refine By_eq (by rw [y_X10_unpackRest]) ?_
      exact ih _ _ _ hb
    | 1 =>
      refine By_eq (by rw [y_X10_unpackRest]) ?_
      exact By_ite (ih _ _ _ hb) (By_ite (By_ite (By_ite (ih _ _ _ (BY_A (by decide) hb)) (By_no)) (By_no)) (By_no))
    | 2 =>
      refine By_eq (by rw [y_X10_unpackRest]) ?_
      exact By_so hb
    | b + 3 =>
      exact By_eq (by rw [y_X10_unpackRest]) By_no
theorem kb_y_X10_restLimbs {P : Prop} : ∀ (k b : Nat) (L : LV) (σ : CS), BY P σ → By P (y_X10_restLimbs k b L σ) := by
  intro k
  induction k with
  | zero => intro b L σ _; exact By_no
  | succ k ih =>
    intro b L σ hb
    match b with
    | 0 =>
      refine By_eq (by rw [y_X10_restLimbs]) ?_
      exact ih _ _ _ hb
    | 1 =>
      refine By_eq (by rw [y_X10_restLimbs]) ?_
      exact By_ite (ih _ _ _ hb) (By_ite (By_ite (ih _ _ _ hb) (ih _ _ _ hb)) (By_no))
    | 2 =>
      refine By_eq (by rw [y_X10_restLimbs]) ?_
      exact By_so hb
    | b + 3 =>
      exact By_eq (by rw [y_X10_restLimbs]) By_no
theorem kb_y_X10_unpackQuotient {P : Prop} : ∀ (k b : Nat) (L : LV) (σ : CS), BY P σ → By P (y_X10_unpackQuotient k b L σ) := by
  intro k
  induction k with
  | zero => intro b L σ _; exact By_no
  | succ k ih =>
    intro b L σ hb
    match b with
    | 0 =>
      refine By_eq (by rw [y_X10_unpackQuotient]) ?_
      exact ih _ _ _ hb
    | 1 =>
      refine By_eq (by rw [y_X10_unpackQuotient]) ?_
      exact By_ite (ih _ _ _ hb) (By_ite (By_ite (By_ite (ih _ _ _ (BY_A (by decide) hb)) (By_no)) (By_no)) (By_no))
    | 2 =>
      refine By_eq (by rw [y_X10_unpackQuotient]) ?_
      exact By_so hb
    | b + 3 =>
      exact By_eq (by rw [y_X10_unpackQuotient]) By_no
theorem kb_y_X10_addOne {P : Prop} : ∀ (k b : Nat) (L : LV) (σ : CS), BY P σ → By P (y_X10_addOne k b L σ) := by
  intro k
  induction k with
  | zero => intro b L σ _; exact By_no
  | succ k ih =>
    intro b L σ hb
    match b with
    | 0 =>
      refine By_eq (by rw [y_X10_addOne]) ?_
      exact ih _ _ _ hb
    | 1 =>
      refine By_eq (by rw [y_X10_addOne]) ?_
      exact By_ite (ih _ _ _ hb) (By_ite (By_ite (By_ite (By_ite (ih _ _ _ (BY_A (by decide) hb)) (By_so (BY_A (by decide) hb))) (By_no)) (By_no)) (By_no))
    | 2 =>
      refine By_eq (by rw [y_X10_addOne]) ?_
      exact By_ite (By_so (BY_A (by decide) hb)) (By_no)
    | 3 =>
      refine By_eq (by rw [y_X10_addOne]) ?_
      exact ih _ _ _ hb
    | b + 4 =>
      exact By_eq (by rw [y_X10_addOne]) By_no
theorem kb_y_X10_divided {P : Prop} : ∀ (k b : Nat) (L : LV) (σ : CS), BY P σ → By P (y_X10_divided k b L σ) := by
  intro k
  induction k with
  | zero => intro b L σ _; exact By_no
  | succ k ih =>
    intro b L σ hb
    match b with
    | 0 =>
      refine By_eq (by rw [y_X10_divided]) ?_
      exact By_ite (By_so hb) (ih _ _ _ hb)
    | 1 =>
      refine By_eq (by rw [y_X10_divided]) ?_
      exact By_ite (ih _ _ _ hb) (By_ite (ih _ _ _ hb) (By_oc (kb_y_X10_number _ _ _ _ hb) (fun _ h116 => By_oc (kb_y_X10_number _ _ _ _ h116) (fun _ h117 => By_oc (kb_y_X10_dividedSmall _ _ _ _ h117) (fun _ h118 => By_so h118)))))
    | 2 =>
      refine By_eq (by rw [y_X10_divided]) ?_
      exact By_oc (kb_y_X10_load__a5 _ _ _ _ hb) (fun _ h119 => By_oc (kb_y_X10_load__a6 _ _ _ _ h119) (fun _ h120 => By_oc (kb_y_X10_isBelow _ _ _ _ h120) (fun _ h121 => By_oc (kb_y_X10_divideLimbs _ _ _ _ h121) (fun _ h122 => By_ite (ih _ _ _ h122) (ih _ _ _ h122)))))
    | 3 =>
      refine By_eq (by rw [y_X10_divided]) ?_
      exact ih _ _ _ hb
    | 4 =>
      refine By_eq (by rw [y_X10_divided]) ?_
      exact By_ite (ih _ _ _ hb) (By_oc (kb_y_X10_unpackRest _ _ _ _ hb) (fun _ h123 => By_ite (ih _ _ _ h123) (By_ite (ih _ _ _ h123) (ih _ _ _ h123))))
    | 5 =>
      refine By_eq (by rw [y_X10_divided]) ?_
      exact By_oc (kb_y_X10_unpackQuotient _ _ _ _ hb) (fun _ h124 => By_ite (ih _ _ _ h124) (By_ite (By_oc (kb_y_X10_addOne _ _ _ _ h124) (fun _ h125 => ih _ _ _ h125)) (ih _ _ _ h124)))
    | 6 =>
      refine By_eq (by rw [y_X10_divided]) ?_
      exact By_oc (kb_y_X10_made _ _ _ _ hb) (fun _ h126 => By_so h126)
    | 7 =>
      refine By_eq (by rw [y_X10_divided]) ?_
      exact By_ite (By_oc (kb_y_X10_load__a6 _ _ _ _ (BY_F (by decide) hb)) (fun _ h127 => By_oc (kb_y_X10_restLimbs _ _ _ _ h127) (fun _ h128 => By_oc (kb_y_X10_takeLimbs__a6__a5 _ _ _ _ h128) (fun _ h129 => By_oc (kb_y_X10_made _ _ _ _ h129) (fun _ h130 => By_so h130))))) (By_no)
    | 8 =>
      refine By_eq (by rw [y_X10_divided]) ?_
      exact By_oc (kb_y_X10_isBelow _ _ _ _ hb) (fun _ h131 => By_ite (ih _ _ _ h131) (ih _ _ _ h131))
    | 9 =>
      refine By_eq (by rw [y_X10_divided]) ?_
      exact ih _ _ _ hb
    | 10 =>
      refine By_eq (by rw [y_X10_divided]) ?_
      exact By_oc (kb_y_X10_made _ _ _ _ hb) (fun _ h132 => By_so h132)
    | b + 11 =>
      exact By_eq (by rw [y_X10_divided]) By_no
theorem kb_y_X11_isError {P : Prop} : ∀ (k b : Nat) (L : LV) (σ : CS), BY P σ → By P (y_X11_isError k b L σ) := by
  intro k
  induction k with
  | zero => intro b L σ _; exact By_no
  | succ k ih =>
    intro b L σ hb
    match b with
    | 0 =>
      refine By_eq (by rw [y_X11_isError]) ?_
      exact By_ite (ih _ _ _ hb) (ih _ _ _ hb)
    | 1 =>
      refine By_eq (by rw [y_X11_isError]) ?_
      exact ih _ _ _ hb
    | 2 =>
      refine By_eq (by rw [y_X11_isError]) ?_
      exact By_ite (By_so hb) (By_no)
    | b + 3 =>
      exact By_eq (by rw [y_X11_isError]) By_no
theorem kb_y_X10_power {P : Prop} : ∀ (k b : Nat) (L : LV) (σ : CS), BY P σ → By P (y_X10_power k b L σ) := by
  intro k
  induction k with
  | zero => intro b L σ _; exact By_no
  | succ k ih =>
    intro b L σ hb
    match b with
    | 0 =>
      refine By_eq (by rw [y_X10_power]) ?_
      exact By_oc (kb_y_X10_isBelow _ _ _ _ hb) (fun _ h133 => By_ite (ih _ _ _ h133) (By_so h133))
    | 1 =>
      refine By_eq (by rw [y_X10_power]) ?_
      exact By_ite (ih _ _ _ hb) (By_ite (ih _ _ _ hb) (ih _ _ _ hb))
    | 2 =>
      refine By_eq (by rw [y_X10_power]) ?_
      exact By_so hb
    | 3 =>
      refine By_eq (by rw [y_X10_power]) ?_
      exact By_ite (By_so hb) (ih _ _ _ hb)
    | 4 =>
      refine By_eq (by rw [y_X10_power]) ?_
      exact By_oc (kb_y_X10_small _ _ _ _ hb) (fun _ h134 => By_ite (By_ite (ih _ _ _ h134) (ih _ _ _ h134)) (ih _ _ _ h134))
    | 5 =>
      refine By_eq (by rw [y_X10_power]) ?_
      exact By_oc (kb_y_X10_clamped _ _ _ _ hb) (fun _ h135 => By_ite (ih _ _ _ h135) (By_so h135))
    | 6 =>
      refine By_eq (by rw [y_X10_power]) ?_
      exact By_ite (ih _ _ _ hb) (By_no)
    | 7 =>
      refine By_eq (by rw [y_X10_power]) ?_
      exact By_ite (ih _ _ _ hb) (ih _ _ _ hb)
    | 8 =>
      refine By_eq (by rw [y_X10_power]) ?_
      exact By_oc (kb_y_X10_number _ _ _ _ hb) (fun _ h136 => ih _ _ _ h136)
    | 9 =>
      refine By_eq (by rw [y_X10_power]) ?_
      exact ih _ _ _ hb
    | 10 =>
      refine By_eq (by rw [y_X10_power]) ?_
      exact By_so hb
    | 11 =>
      refine By_eq (by rw [y_X10_power]) ?_
      exact By_ite (ih _ _ _ hb) (By_oc (kb_y_X11_isError _ _ _ _ hb) (fun _ h137 => By_ite (By_oc (kb_y_X10_product _ _ _ _ h137) (fun _ h138 => By_oc (kb_y_X11_isError _ _ _ _ h138) (fun _ h139 => By_ite (By_ite (By_oc (kb_y_X10_product _ _ _ _ h139) (fun _ h140 => ih _ _ _ h140)) (ih _ _ _ h139)) (ih _ _ _ h139)))) (ih _ _ _ h137)))
    | 12 =>
      refine By_eq (by rw [y_X10_power]) ?_
      exact By_so hb
    | 13 =>
      refine By_eq (by rw [y_X10_power]) ?_
      exact ih _ _ _ hb
    | b + 14 =>
      exact By_eq (by rw [y_X10_power]) By_no
theorem kb_y_X11_truth {P : Prop} : ∀ (k b : Nat) (L : LV) (σ : CS), BY P σ → By P (y_X11_truth k b L σ) := by
  intro k
  induction k with
  | zero => intro b L σ _; exact By_no
  | succ k ih =>
    intro b L σ hb
    match b with
    | 0 =>
      refine By_eq (by rw [y_X11_truth]) ?_
      exact By_ite (ih _ _ _ hb) (ih _ _ _ hb)
    | 1 =>
      refine By_eq (by rw [y_X11_truth]) ?_
      exact ih _ _ _ hb
    | 2 =>
      refine By_eq (by rw [y_X11_truth]) ?_
      exact By_so hb
    | b + 3 =>
      exact By_eq (by rw [y_X11_truth]) By_no
theorem kb_y_X0_holds {P : Prop} : ∀ (k b : Nat) (L : LV) (σ : CS), BY P σ → By P (y_X0_holds k b L σ) := by
  intro k
  induction k with
  | zero => intro b L σ _; exact By_no
  | succ k ih =>
    intro b L σ hb
    match b with
    | 0 =>
      refine By_eq (by rw [y_X0_holds]) ?_
      exact By_oc (kb_y_X0_placeOf _ _ _ _ hb) (fun _ h141 => By_oc (kb_y_X1_length _ _ _ _ h141) (fun _ h142 => By_ite (ih _ _ _ h142) (By_oc (kb_y_X1_member _ _ _ _ h142) (fun _ h143 => By_oc (kb_y_X1_same _ _ _ _ h143) (fun _ h144 => By_ite (ih _ _ _ h144) (ih _ _ _ h144))))))
    | 1 =>
      refine By_eq (by rw [y_X0_holds]) ?_
      exact ih _ _ _ hb
    | 2 =>
      refine By_eq (by rw [y_X0_holds]) ?_
      exact By_ite (By_so hb) (By_no)
    | b + 3 =>
      exact By_eq (by rw [y_X0_holds]) By_no
theorem kb_y_X1_byteAt {P : Prop} : ∀ (k b : Nat) (L : LV) (σ : CS), BY P σ → By P (y_X1_byteAt k b L σ) := by
  intro k
  induction k with
  | zero => intro b L σ _; exact By_no
  | succ k ih =>
    intro b L σ hb
    match b with
    | 0 =>
      refine By_eq (by rw [y_X1_byteAt]) ?_
      exact By_ite (ih _ _ _ hb) (ih _ _ _ hb)
    | 1 =>
      refine By_eq (by rw [y_X1_byteAt]) ?_
      exact By_ite (ih _ _ _ hb) (By_no)
    | 2 =>
      refine By_eq (by rw [y_X1_byteAt]) ?_
      exact By_so hb
    | b + 3 =>
      exact By_eq (by rw [y_X1_byteAt]) By_no
theorem kb_y_X0_standsIn {P : Prop} : ∀ (k b : Nat) (L : LV) (σ : CS), BY P σ → By P (y_X0_standsIn k b L σ) := by
  intro k
  induction k with
  | zero => intro b L σ _; exact By_no
  | succ k ih =>
    intro b L σ hb
    match b with
    | 0 =>
      refine By_eq (by rw [y_X0_standsIn]) ?_
      exact By_oc (kb_y_X1_length _ _ _ _ hb) (fun _ h145 => By_oc (kb_y_X1_length _ _ _ _ h145) (fun _ h146 => ih _ _ _ h146))
    | 1 =>
      refine By_eq (by rw [y_X0_standsIn]) ?_
      exact By_ite (ih _ _ _ hb) (ih _ _ _ hb)
    | 2 =>
      refine By_eq (by rw [y_X0_standsIn]) ?_
      exact By_so hb
    | 3 =>
      refine By_eq (by rw [y_X0_standsIn]) ?_
      exact By_ite (ih _ _ _ hb) (By_oc (kb_y_X1_byteAt _ _ _ _ hb) (fun _ h147 => By_oc (kb_y_X1_byteAt _ _ _ _ h147) (fun _ h148 => By_ite (ih _ _ _ h148) (ih _ _ _ h148))))
    | 4 =>
      refine By_eq (by rw [y_X0_standsIn]) ?_
      exact By_ite (By_so hb) (ih _ _ _ hb)
    | 5 =>
      refine By_eq (by rw [y_X0_standsIn]) ?_
      exact ih _ _ _ hb
    | b + 6 =>
      exact By_eq (by rw [y_X0_standsIn]) By_no
theorem kb_y_X0_contains {P : Prop} : ∀ (k b : Nat) (L : LV) (σ : CS), BY P σ → By P (y_X0_contains k b L σ) := by
  intro k
  induction k with
  | zero => intro b L σ _; exact By_no
  | succ k ih =>
    intro b L σ hb
    match b with
    | 0 =>
      refine By_eq (by rw [y_X0_contains]) ?_
      exact By_oc (kb_y_X1_kind _ _ _ _ hb) (fun _ h149 => By_ite (ih _ _ _ h149) (By_ite (ih _ _ _ h149) (By_ite (ih _ _ _ h149) (ih _ _ _ h149))))
    | 1 =>
      refine By_eq (by rw [y_X0_contains]) ?_
      exact By_oc (kb_y_X1_kind _ _ _ _ hb) (fun _ h150 => By_ite (By_oc (kb_y_X0_standsIn _ _ _ _ h150) (fun _ h151 => By_oc (kb_y_X11_truth _ _ _ _ h151) (fun _ h152 => ih _ _ _ h152))) (ih _ _ _ h150))
    | 2 =>
      refine By_eq (by rw [y_X0_contains]) ?_
      exact ih _ _ _ hb
    | 3 =>
      refine By_eq (by rw [y_X0_contains]) ?_
      exact By_oc (kb_y_X0_holds _ _ _ _ hb) (fun _ h153 => By_oc (kb_y_X11_truth _ _ _ _ h153) (fun _ h154 => By_so h154))
    | 4 =>
      refine By_eq (by rw [y_X0_contains]) ?_
      exact By_so hb
    | 5 =>
      refine By_eq (by rw [y_X0_contains]) ?_
      exact ih _ _ _ hb
    | 6 =>
      refine By_eq (by rw [y_X0_contains]) ?_
      exact By_so hb
    | 7 =>
      refine By_eq (by rw [y_X0_contains]) ?_
      exact By_oc (kb_y_X1_length _ _ _ _ hb) (fun _ h155 => By_ite (ih _ _ _ h155) (By_ite (By_ite (ih _ _ _ h155) (By_oc (kb_y_X1_member _ _ _ _ h155) (fun _ h156 => By_oc (kb_y_X1_same _ _ _ _ h156) (fun _ h157 => ih _ _ _ h157)))) (ih _ _ _ h155)))
    | 8 =>
      refine By_eq (by rw [y_X0_contains]) ?_
      exact By_oc (kb_y_X11_truth _ _ _ _ hb) (fun _ h158 => By_so h158)
    | b + 9 =>
      exact By_eq (by rw [y_X0_contains]) By_no
theorem kb_y_X0_isSubset {P : Prop} : ∀ (k b : Nat) (L : LV) (σ : CS), BY P σ → By P (y_X0_isSubset k b L σ) := by
  intro k
  induction k with
  | zero => intro b L σ _; exact By_no
  | succ k ih =>
    intro b L σ hb
    match b with
    | 0 =>
      refine By_eq (by rw [y_X0_isSubset]) ?_
      exact By_oc (kb_y_X1_length _ _ _ _ hb) (fun _ h159 => By_oc (kb_y_X1_length _ _ _ _ h159) (fun _ h160 => By_ite (ih _ _ _ h160) (ih _ _ _ h160)))
    | 1 =>
      refine By_eq (by rw [y_X0_isSubset]) ?_
      exact ih _ _ _ hb
    | 2 =>
      refine By_eq (by rw [y_X0_isSubset]) ?_
      exact ih _ _ _ hb
    | 3 =>
      refine By_eq (by rw [y_X0_isSubset]) ?_
      exact By_oc (kb_y_X1_length _ _ _ _ hb) (fun _ h161 => By_ite (ih _ _ _ h161) (By_ite (ih _ _ _ h161) (By_oc (kb_y_X1_member _ _ _ _ h161) (fun _ h162 => By_oc (kb_y_X0_holds _ _ _ _ h162) (fun _ h163 => ih _ _ _ h163)))))
    | 4 =>
      refine By_eq (by rw [y_X0_isSubset]) ?_
      exact By_ite (By_so hb) (By_no)
    | b + 5 =>
      exact By_eq (by rw [y_X0_isSubset]) By_no
theorem kb_y_X0_compared {P : Prop} : ∀ (k b : Nat) (L : LV) (σ : CS), BY P σ → By P (y_X0_compared k b L σ) := by
  intro k
  induction k with
  | zero => intro b L σ _; exact By_no
  | succ k ih =>
    intro b L σ hb
    match b with
    | 0 =>
      refine By_eq (by rw [y_X0_compared]) ?_
      exact By_oc (kb_y_X1_kind _ _ _ _ hb) (fun _ h164 => By_oc (kb_y_X1_kind _ _ _ _ h164) (fun _ h165 => By_ite (By_ite (ih _ _ _ h165) (By_ite (ih _ _ _ h165) (ih _ _ _ h165))) (ih _ _ _ h165)))
    | 1 =>
      refine By_eq (by rw [y_X0_compared]) ?_
      exact By_so hb
    | 2 =>
      refine By_eq (by rw [y_X0_compared]) ?_
      exact By_oc (kb_y_X1_compare _ _ _ _ hb) (fun _ h166 => By_ite (ih _ _ _ h166) (By_ite (ih _ _ _ h166) (By_ite (ih _ _ _ h166) (ih _ _ _ h166))))
    | 3 =>
      refine By_eq (by rw [y_X0_compared]) ?_
      exact By_ite (ih _ _ _ hb) (ih _ _ _ hb)
    | 4 =>
      refine By_eq (by rw [y_X0_compared]) ?_
      exact By_ite (ih _ _ _ hb) (ih _ _ _ hb)
    | 5 =>
      refine By_eq (by rw [y_X0_compared]) ?_
      exact By_ite (ih _ _ _ hb) (ih _ _ _ hb)
    | 6 =>
      refine By_eq (by rw [y_X0_compared]) ?_
      exact By_ite (ih _ _ _ hb) (ih _ _ _ hb)
    | 7 =>
      refine By_eq (by rw [y_X0_compared]) ?_
      exact ih _ _ _ hb
    | 8 =>
      refine By_eq (by rw [y_X0_compared]) ?_
      exact By_oc (kb_y_X11_truth _ _ _ _ hb) (fun _ h167 => By_so h167)
    | 9 =>
      refine By_eq (by rw [y_X0_compared]) ?_
      exact ih _ _ _ hb
    | 10 =>
      refine By_eq (by rw [y_X0_compared]) ?_
      exact By_oc (kb_y_X11_truth _ _ _ _ hb) (fun _ h168 => By_so h168)
    | 11 =>
      refine By_eq (by rw [y_X0_compared]) ?_
      exact ih _ _ _ hb
    | 12 =>
      refine By_eq (by rw [y_X0_compared]) ?_
      exact By_oc (kb_y_X11_truth _ _ _ _ hb) (fun _ h169 => By_so h169)
    | 13 =>
      refine By_eq (by rw [y_X0_compared]) ?_
      exact ih _ _ _ hb
    | 14 =>
      refine By_eq (by rw [y_X0_compared]) ?_
      exact By_oc (kb_y_X11_truth _ _ _ _ hb) (fun _ h170 => By_so h170)
    | b + 15 =>
      exact By_eq (by rw [y_X0_compared]) By_no
theorem kb_y_X0_binary {P : Prop} : ∀ (k b : Nat) (L : LV) (σ : CS), BY P σ → By P (y_X0_binary k b L σ) := by
  intro k
  induction k with
  | zero => intro b L σ _; exact By_no
  | succ k ih =>
    intro b L σ hb
    match b with
    | 0 =>
      refine By_eq (by rw [y_X0_binary]) ?_
      exact By_ite (ih _ _ _ hb) (By_ite (ih _ _ _ hb) (By_ite (ih _ _ _ hb) (By_ite (ih _ _ _ hb) (By_ite (ih _ _ _ hb) (By_ite (ih _ _ _ hb) (By_ite (ih _ _ _ hb) (By_ite (ih _ _ _ hb) (By_ite (ih _ _ _ hb) (By_ite (ih _ _ _ hb) (By_ite (ih _ _ _ hb) (By_ite (ih _ _ _ hb) (By_ite (ih _ _ _ hb) (By_ite (ih _ _ _ hb) (By_ite (ih _ _ _ hb) (ih _ _ _ hb)))))))))))))))
    | 1 =>
      refine By_eq (by rw [y_X0_binary]) ?_
      exact By_oc (kb_y_X0_sum _ _ _ _ hb) (fun _ h171 => By_so h171)
    | 2 =>
      refine By_eq (by rw [y_X0_binary]) ?_
      exact By_oc (kb_y_X0_difference _ _ _ _ hb) (fun _ h172 => By_so h172)
    | 3 =>
      refine By_eq (by rw [y_X0_binary]) ?_
      exact By_oc (kb_y_X0_product _ _ _ _ hb) (fun _ h173 => By_so h173)
    | 4 =>
      refine By_eq (by rw [y_X0_binary]) ?_
      exact By_oc (kb_y_X0_areWholes _ _ _ _ hb) (fun _ h174 => By_ite (ih _ _ _ h174) (By_ite (ih _ _ _ h174) (ih _ _ _ h174)))
    | 5 =>
      refine By_eq (by rw [y_X0_binary]) ?_
      exact By_oc (kb_y_X0_areWholes _ _ _ _ hb) (fun _ h175 => By_ite (ih _ _ _ h175) (By_oc (kb_y_X10_power _ _ _ _ h175) (fun _ h176 => ih _ _ _ h176)))
    | 6 =>
      refine By_eq (by rw [y_X0_binary]) ?_
      exact By_oc (kb_y_X1_same _ _ _ _ hb) (fun _ h177 => By_oc (kb_y_X11_truth _ _ _ _ h177) (fun _ h178 => By_so h178))
    | 7 =>
      refine By_eq (by rw [y_X0_binary]) ?_
      exact By_oc (kb_y_X1_same _ _ _ _ hb) (fun _ h179 => By_ite (ih _ _ _ h179) (ih _ _ _ h179))
    | 8 =>
      refine By_eq (by rw [y_X0_binary]) ?_
      exact By_oc (kb_y_X0_compared _ _ _ _ hb) (fun _ h180 => By_so h180)
    | 9 =>
      refine By_eq (by rw [y_X0_binary]) ?_
      exact By_oc (kb_y_X0_contains _ _ _ _ hb) (fun _ h181 => By_so h181)
    | 10 =>
      refine By_eq (by rw [y_X0_binary]) ?_
      exact By_oc (kb_y_X0_contains _ _ _ _ hb) (fun _ h182 => By_oc (kb_y_X11_isError _ _ _ _ h182) (fun _ h183 => By_ite (ih _ _ _ h183) (ih _ _ _ h183)))
    | 11 =>
      refine By_eq (by rw [y_X0_binary]) ?_
      exact By_oc (kb_y_X0_areSets _ _ _ _ hb) (fun _ h184 => By_ite (ih _ _ _ h184) (By_oc (kb_y_X0_isSubset _ _ _ _ h184) (fun _ h185 => By_oc (kb_y_X11_truth _ _ _ _ h185) (fun _ h186 => ih _ _ _ h186))))
    | 12 =>
      refine By_eq (by rw [y_X0_binary]) ?_
      exact ih _ _ _ hb
    | 13 =>
      refine By_eq (by rw [y_X0_binary]) ?_
      exact ih _ _ _ hb
    | 14 =>
      refine By_eq (by rw [y_X0_binary]) ?_
      exact By_oc (kb_y_X10_divided _ _ _ _ hb) (fun _ h187 => ih _ _ _ h187)
    | 15 =>
      refine By_eq (by rw [y_X0_binary]) ?_
      exact ih _ _ _ hb
    | 16 =>
      refine By_eq (by rw [y_X0_binary]) ?_
      exact By_so hb
    | 17 =>
      refine By_eq (by rw [y_X0_binary]) ?_
      exact ih _ _ _ hb
    | 18 =>
      refine By_eq (by rw [y_X0_binary]) ?_
      exact By_oc (kb_y_X11_truth _ _ _ _ hb) (fun _ h188 => By_so h188)
    | 19 =>
      refine By_eq (by rw [y_X0_binary]) ?_
      exact By_ite (ih _ _ _ hb) (ih _ _ _ hb)
    | 20 =>
      refine By_eq (by rw [y_X0_binary]) ?_
      exact By_so hb
    | 21 =>
      refine By_eq (by rw [y_X0_binary]) ?_
      exact ih _ _ _ hb
    | 22 =>
      refine By_eq (by rw [y_X0_binary]) ?_
      exact By_so hb
    | 23 =>
      refine By_eq (by rw [y_X0_binary]) ?_
      exact By_so hb
    | 24 =>
      refine By_eq (by rw [y_X0_binary]) ?_
      exact ih _ _ _ hb
    | 25 =>
      refine By_eq (by rw [y_X0_binary]) ?_
      exact By_oc (kb_y_X11_truth _ _ _ _ hb) (fun _ h189 => ih _ _ _ h189)
    | b + 26 =>
      exact By_eq (by rw [y_X0_binary]) By_no
theorem kb_y_X1_size {P : Prop} : ∀ (k b : Nat) (L : LV) (σ : CS), BY P σ → By P (y_X1_size k b L σ) := by
  intro k
  induction k with
  | zero => intro b L σ _; exact By_no
  | succ k ih =>
    intro b L σ hb
    match b with
    | 0 =>
      refine By_eq (by rw [y_X1_size]) ?_
      exact By_ite (ih _ _ _ hb) (By_ite (By_so hb) (By_no))
    | 1 =>
      refine By_eq (by rw [y_X1_size]) ?_
      exact By_ite (ih _ _ _ hb) (By_ite (By_ite (ih _ _ _ hb) (ih _ _ _ hb)) (ih _ _ _ hb))
    | 2 =>
      refine By_eq (by rw [y_X1_size]) ?_
      exact ih _ _ _ hb
    | 3 =>
      refine By_eq (by rw [y_X1_size]) ?_
      exact ih _ _ _ hb
    | 4 =>
      refine By_eq (by rw [y_X1_size]) ?_
      exact By_so hb
    | b + 5 =>
      exact By_eq (by rw [y_X1_size]) By_no
theorem kb_y_X0_charOf {P : Prop} : ∀ (k b : Nat) (L : LV) (σ : CS), BY P σ → By P (y_X0_charOf k b L σ) := by
  intro k
  induction k with
  | zero => intro b L σ _; exact By_no
  | succ k ih =>
    intro b L σ hb
    match b with
    | 0 =>
      refine By_eq (by rw [y_X0_charOf]) ?_
      exact By_oc (kb_y_X10_clamped _ _ _ _ hb) (fun _ h190 => By_ite (ih _ _ _ h190) (By_ite (ih _ _ _ h190) (ih _ _ _ h190)))
    | 1 =>
      refine By_eq (by rw [y_X0_charOf]) ?_
      exact ih _ _ _ hb
    | 2 =>
      refine By_eq (by rw [y_X0_charOf]) ?_
      exact By_so hb
    | b + 3 =>
      exact By_eq (by rw [y_X0_charOf]) By_no
theorem kb_y_X0_codeOf {P : Prop} : ∀ (k b : Nat) (L : LV) (σ : CS), BY P σ → By P (y_X0_codeOf k b L σ) := by
  intro k
  induction k with
  | zero => intro b L σ _; exact By_no
  | succ k ih =>
    intro b L σ hb
    match b with
    | 0 =>
      refine By_eq (by rw [y_X0_codeOf]) ?_
      exact By_oc (kb_y_X1_length _ _ _ _ hb) (fun _ h191 => By_ite (By_oc (kb_y_X1_byteAt _ _ _ _ h191) (fun _ h192 => By_oc (kb_y_X10_small _ _ _ _ h192) (fun _ h193 => ih _ _ _ h193))) (ih _ _ _ h191))
    | 1 =>
      refine By_eq (by rw [y_X0_codeOf]) ?_
      exact ih _ _ _ hb
    | 2 =>
      refine By_eq (by rw [y_X0_codeOf]) ?_
      exact By_so hb
    | b + 3 =>
      exact By_eq (by rw [y_X0_codeOf]) By_no
theorem kb_y_X0_reversed {P : Prop} : ∀ (k b : Nat) (L : LV) (σ : CS), BY P σ → By P (y_X0_reversed k b L σ) := by
  intro k
  induction k with
  | zero => intro b L σ _; exact By_no
  | succ k ih =>
    intro b L σ hb
    match b with
    | 0 =>
      refine By_eq (by rw [y_X0_reversed]) ?_
      exact By_oc (kb_y_X1_length _ _ _ _ hb) (fun _ h194 => By_ite (ih _ _ _ h194) (ih _ _ _ h194))
    | 1 =>
      refine By_eq (by rw [y_X0_reversed]) ?_
      exact ih _ _ _ hb
    | 2 =>
      refine By_eq (by rw [y_X0_reversed]) ?_
      exact By_ite (ih _ _ _ hb) (By_ite (ih _ _ _ hb) (By_oc (kb_y_X1_byteAt _ _ _ _ hb) (fun _ h195 => By_ite (ih _ _ _ (BY_A (by decide) h195)) (By_no))))
    | 3 =>
      refine By_eq (by rw [y_X0_reversed]) ?_
      exact By_ite (ih _ _ _ hb) (By_ite (ih _ _ _ hb) (By_oc (kb_y_X1_member _ _ _ _ hb) (fun _ h196 => By_ite (ih _ _ _ (BY_A (by decide) h196)) (By_no))))
    | 4 =>
      refine By_eq (by rw [y_X0_reversed]) ?_
      exact By_oc (kb_y_X1_makeString__a15 _ _ _ _ hb) (fun _ h197 => By_so h197)
    | 5 =>
      refine By_eq (by rw [y_X0_reversed]) ?_
      exact By_oc (kb_y_X1_makeTuple__a16 _ _ _ _ hb) (fun _ h198 => By_so h198)
    | b + 6 =>
      exact By_eq (by rw [y_X0_reversed]) By_no
theorem kb_y_X0_domain {P : Prop} : ∀ (k b : Nat) (L : LV) (σ : CS), BY P σ → By P (y_X0_domain k b L σ) := by
  intro k
  induction k with
  | zero => intro b L σ _; exact By_no
  | succ k ih =>
    intro b L σ hb
    match b with
    | 0 =>
      refine By_eq (by rw [y_X0_domain]) ?_
      exact ih _ _ _ hb
    | 1 =>
      refine By_eq (by rw [y_X0_domain]) ?_
      exact By_oc (kb_y_X1_length _ _ _ _ hb) (fun _ h199 => By_ite (ih _ _ _ h199) (By_ite (ih _ _ _ h199) (By_oc (kb_y_X1_member _ _ _ _ h199) (fun _ h200 => By_oc (kb_y_X1_member _ _ _ _ h200) (fun _ h201 => By_ite (By_so h201) (ih _ _ _ h201))))))
    | 2 =>
      refine By_eq (by rw [y_X0_domain]) ?_
      exact By_oc (kb_y_X1_makeRow__a16 _ _ _ _ hb) (fun _ h202 => By_so h202)
    | 3 =>
      refine By_eq (by rw [y_X0_domain]) ?_
      exact By_ite (ih _ _ _ hb) (By_ite (By_oc (kb_y_X1_same _ _ _ _ hb) (fun _ h203 => By_ite (ih _ _ _ h203) (ih _ _ _ h203))) (By_no))
    | 4 =>
      refine By_eq (by rw [y_X0_domain]) ?_
      exact By_ite (ih _ _ _ (BY_A (by decide) hb)) (By_no)
    | 5 =>
      refine By_eq (by rw [y_X0_domain]) ?_
      exact ih _ _ _ hb
    | b + 6 =>
      exact By_eq (by rw [y_X0_domain]) By_no
theorem kb_y_X0_insert__a16 {P : Prop} : ∀ (k b : Nat) (L : LV) (σ : CS), BY P σ → By P (y_X0_insert__a16 k b L σ) := by
  intro k
  induction k with
  | zero => intro b L σ _; exact By_no
  | succ k ih =>
    intro b L σ hb
    match b with
    | 0 =>
      refine By_eq (by rw [y_X0_insert__a16]) ?_
      exact By_ite (ih _ _ _ hb) (By_ite (By_oc (kb_y_X1_compare _ _ _ _ hb) (fun _ h204 => By_ite (ih _ _ _ h204) (ih _ _ _ h204))) (By_no))
    | 1 =>
      refine By_eq (by rw [y_X0_insert__a16]) ?_
      exact ih _ _ _ hb
    | 2 =>
      refine By_eq (by rw [y_X0_insert__a16]) ?_
      exact By_ite (ih _ _ _ hb) (By_ite (ih _ _ _ hb) (By_ite (By_oc (kb_y_X1_compare _ _ _ _ hb) (fun _ h205 => By_ite (ih _ _ _ h205) (ih _ _ _ h205))) (By_no)))
    | 3 =>
      refine By_eq (by rw [y_X0_insert__a16]) ?_
      exact By_ite (ih _ _ _ hb) (By_ite (By_oc (kb_y_X1_same _ _ _ _ hb) (fun _ h206 => By_ite (ih _ _ _ h206) (By_so h206))) (By_no))
    | 4 =>
      refine By_eq (by rw [y_X0_insert__a16]) ?_
      exact ih _ _ _ hb
    | 5 =>
      refine By_eq (by rw [y_X0_insert__a16]) ?_
      exact ih _ _ _ hb
    | 6 =>
      refine By_eq (by rw [y_X0_insert__a16]) ?_
      exact By_ite (By_ite (By_so (BY_A (by decide) (BY_F (by decide) hb))) (By_no)) (By_no)
    | b + 7 =>
      exact By_eq (by rw [y_X0_insert__a16]) By_no
theorem kb_y_X0_range {P : Prop} : ∀ (k b : Nat) (L : LV) (σ : CS), BY P σ → By P (y_X0_range k b L σ) := by
  intro k
  induction k with
  | zero => intro b L σ _; exact By_no
  | succ k ih =>
    intro b L σ hb
    match b with
    | 0 =>
      refine By_eq (by rw [y_X0_range]) ?_
      exact ih _ _ _ hb
    | 1 =>
      refine By_eq (by rw [y_X0_range]) ?_
      exact By_oc (kb_y_X1_length _ _ _ _ hb) (fun _ h207 => By_ite (ih _ _ _ h207) (By_ite (ih _ _ _ h207) (By_oc (kb_y_X1_member _ _ _ _ h207) (fun _ h208 => By_oc (kb_y_X1_member _ _ _ _ h208) (fun _ h209 => By_oc (kb_y_X0_insert__a16 _ _ _ _ h209) (fun _ h210 => By_ite (ih _ _ _ h210) (ih _ _ _ h210)))))))
    | 2 =>
      refine By_eq (by rw [y_X0_range]) ?_
      exact By_oc (kb_y_X1_makeRow__a16 _ _ _ _ hb) (fun _ h211 => By_so h211)
    | 3 =>
      refine By_eq (by rw [y_X0_range]) ?_
      exact ih _ _ _ hb
    | b + 4 =>
      exact By_eq (by rw [y_X0_range]) By_no
theorem kb_y_X0_highest {P : Prop} : ∀ (k b : Nat) (L : LV) (σ : CS), BY P σ → By P (y_X0_highest k b L σ) := by
  intro k
  induction k with
  | zero => intro b L σ _; exact By_no
  | succ k ih =>
    intro b L σ hb
    match b with
    | 0 =>
      refine By_eq (by rw [y_X0_highest]) ?_
      exact ih _ _ _ hb
    | 1 =>
      refine By_eq (by rw [y_X0_highest]) ?_
      exact By_ite (ih _ _ _ hb) (By_ite (ih _ _ _ hb) (ih _ _ _ hb))
    | 2 =>
      refine By_eq (by rw [y_X0_highest]) ?_
      exact By_so hb
    | 3 =>
      refine By_eq (by rw [y_X0_highest]) ?_
      exact ih _ _ _ hb
    | 4 =>
      refine By_eq (by rw [y_X0_highest]) ?_
      exact ih _ _ _ hb
    | b + 5 =>
      exact By_eq (by rw [y_X0_highest]) By_no
theorem kb_y_X1_makeRow__a17 {P : Prop} : ∀ (k b : Nat) (L : LV) (σ : CS), BY P σ → By P (y_X1_makeRow__a17 k b L σ) := by
  intro k
  induction k with
  | zero => intro b L σ _; exact By_no
  | succ k ih =>
    intro b L σ hb
    match b with
    | 0 =>
      refine By_eq (by rw [y_X1_makeRow__a17]) ?_
      exact By_ite (ih _ _ _ hb) (By_ite (ih _ _ _ hb) (ih _ _ _ hb))
    | 1 =>
      refine By_eq (by rw [y_X1_makeRow__a17]) ?_
      exact By_ite (ih _ _ _ hb) (ih _ _ _ hb)
    | 2 =>
      refine By_eq (by rw [y_X1_makeRow__a17]) ?_
      exact ih _ _ _ hb
    | 3 =>
      refine By_eq (by rw [y_X1_makeRow__a17]) ?_
      exact By_so hb
    | 4 =>
      refine By_eq (by rw [y_X1_makeRow__a17]) ?_
      exact ih _ _ _ hb
    | 5 =>
      refine By_eq (by rw [y_X1_makeRow__a17]) ?_
      exact ih _ _ _ hb
    | 6 =>
      refine By_eq (by rw [y_X1_makeRow__a17]) ?_
      exact By_ite (ih _ _ _ hb) (By_ite (ih _ _ _ hb) (By_ite (By_ite (ih _ _ _ hb) (By_ite (By_ite (ih _ _ _ hb) (ih _ _ _ hb)) (By_no))) (By_no)))
    | 7 =>
      refine By_eq (by rw [y_X1_makeRow__a17]) ?_
      exact By_ite (ih _ _ _ hb) (By_ite (ih _ _ _ hb) (ih _ _ _ hb))
    | 8 =>
      refine By_eq (by rw [y_X1_makeRow__a17]) ?_
      exact By_ite (ih _ _ _ hb) (By_ite (By_ite (ih _ _ _ hb) (ih _ _ _ hb)) (ih _ _ _ hb))
    | 9 =>
      refine By_eq (by rw [y_X1_makeRow__a17]) ?_
      exact ih _ _ _ hb
    | 10 =>
      refine By_eq (by rw [y_X1_makeRow__a17]) ?_
      exact By_ite (ih _ _ _ hb) (By_ite (ih _ _ _ hb) (ih _ _ _ hb))
    | 11 =>
      refine By_eq (by rw [y_X1_makeRow__a17]) ?_
      exact By_so hb
    | 12 =>
      refine By_eq (by rw [y_X1_makeRow__a17]) ?_
      exact By_ite (ih _ _ _ hb) (By_so hb)
    | 13 =>
      refine By_eq (by rw [y_X1_makeRow__a17]) ?_
      exact ih _ _ _ hb
    | 14 =>
      refine By_eq (by rw [y_X1_makeRow__a17]) ?_
      exact ih _ _ _ hb
    | 15 =>
      refine By_eq (by rw [y_X1_makeRow__a17]) ?_
      exact ih _ _ _ hb
    | 16 =>
      refine By_eq (by rw [y_X1_makeRow__a17]) ?_
      exact ih _ _ _ hb
    | 17 =>
      refine By_eq (by rw [y_X1_makeRow__a17]) ?_
      exact By_ite (ih _ _ _ (BY_I (by decide) hb)) (ih _ _ _ (BY_I (by decide) hb))
    | 18 =>
      refine By_eq (by rw [y_X1_makeRow__a17]) ?_
      exact ih _ _ _ hb
    | 19 =>
      refine By_eq (by rw [y_X1_makeRow__a17]) ?_
      exact ih _ _ _ hb
    | 20 =>
      refine By_eq (by rw [y_X1_makeRow__a17]) ?_
      exact ih _ _ _ hb
    | 21 =>
      refine By_eq (by rw [y_X1_makeRow__a17]) ?_
      exact By_ite (By_ite (By_so (BY_F (by decide) (BY_A (by decide) hb))) (By_no)) (By_no)
    | b + 22 =>
      exact By_eq (by rw [y_X1_makeRow__a17]) By_no
theorem kb_y_X0_subsets {P : Prop} : ∀ (k b : Nat) (L : LV) (σ : CS), BY P σ → By P (y_X0_subsets k b L σ) := by
  intro k
  induction k with
  | zero => intro b L σ _; exact By_no
  | succ k ih =>
    intro b L σ hb
    match b with
    | 0 =>
      refine By_eq (by rw [y_X0_subsets]) ?_
      exact By_oc (kb_y_X1_length _ _ _ _ hb) (fun _ h212 => By_ite (ih _ _ _ h212) (By_oc (kb_y_X1_size _ _ _ _ h212) (fun _ h213 => By_ite (ih _ _ _ h213) (ih _ _ _ h213))))
    | 1 =>
      refine By_eq (by rw [y_X0_subsets]) ?_
      exact By_so hb
    | 2 =>
      refine By_eq (by rw [y_X0_subsets]) ?_
      exact By_ite (ih _ _ _ (BY_A (by decide) hb)) (By_no)
    | 3 =>
      refine By_eq (by rw [y_X0_subsets]) ?_
      exact By_ite (ih _ _ _ hb) (By_ite (By_oc (kb_y_X0_highest _ _ _ _ hb) (fun _ h214 => ih _ _ _ h214)) (ih _ _ _ hb))
    | 4 =>
      refine By_eq (by rw [y_X0_subsets]) ?_
      exact By_oc (kb_y_X1_makeRow__a16 _ _ _ _ hb) (fun _ h215 => By_so h215)
    | 5 =>
      refine By_eq (by rw [y_X0_subsets]) ?_
      exact By_oc (kb_y_X1_member _ _ _ _ hb) (fun _ h216 => By_ite (By_oc (kb_y_X1_makeRow__a17 _ _ _ _ (BY_A (by decide) h216)) (fun _ h217 => By_ite (By_ite (By_oc (kb_y_X11_isError _ _ _ _ (BY_A (by decide) h217)) (fun _ h218 => ih _ _ _ h218)) (By_no)) (By_no))) (By_no))
    | 6 =>
      refine By_eq (by rw [y_X0_subsets]) ?_
      exact By_ite (ih _ _ _ hb) (By_ite (By_so hb) (By_no))
    | 7 =>
      refine By_eq (by rw [y_X0_subsets]) ?_
      exact ih _ _ _ hb
    | b + 8 =>
      exact By_eq (by rw [y_X0_subsets]) By_no
theorem kb_y_X0_larger {P : Prop} : ∀ (k b : Nat) (L : LV) (σ : CS), BY P σ → By P (y_X0_larger k b L σ) := by
  intro k
  induction k with
  | zero => intro b L σ _; exact By_no
  | succ k ih =>
    intro b L σ hb
    match b with
    | 0 =>
      refine By_eq (by rw [y_X0_larger]) ?_
      exact By_oc (kb_y_X0_compared _ _ _ _ hb) (fun _ h219 => By_oc (kb_y_X11_isError _ _ _ _ h219) (fun _ h220 => By_ite (ih _ _ _ h220) (By_so h220)))
    | 1 =>
      refine By_eq (by rw [y_X0_larger]) ?_
      exact By_ite (ih _ _ _ hb) (ih _ _ _ hb)
    | 2 =>
      refine By_eq (by rw [y_X0_larger]) ?_
      exact ih _ _ _ hb
    | 3 =>
      refine By_eq (by rw [y_X0_larger]) ?_
      exact By_ite (ih _ _ _ hb) (ih _ _ _ hb)
    | 4 =>
      refine By_eq (by rw [y_X0_larger]) ?_
      exact ih _ _ _ hb
    | 5 =>
      refine By_eq (by rw [y_X0_larger]) ?_
      exact By_so hb
    | b + 6 =>
      exact By_eq (by rw [y_X0_larger]) By_no
theorem kb_y_X0_smallSteps {P : Prop} : ∀ (k b : Nat) (L : LV) (σ : CS), BY P σ → By P (y_X0_smallSteps k b L σ) := by
  intro k
  induction k with
  | zero => intro b L σ _; exact By_no
  | succ k ih =>
    intro b L σ hb
    match b with
    | 0 =>
      refine By_eq (by rw [y_X0_smallSteps]) ?_
      exact ih _ _ _ hb
    | 1 =>
      refine By_eq (by rw [y_X0_smallSteps]) ?_
      exact By_ite (ih _ _ _ hb) (By_ite (ih _ _ _ hb) (By_ite (ih _ _ _ hb) (By_ite (ih _ _ _ hb) (ih _ _ _ hb))))
    | 2 =>
      refine By_eq (by rw [y_X0_smallSteps]) ?_
      exact By_so hb
    | 3 =>
      refine By_eq (by rw [y_X0_smallSteps]) ?_
      exact By_ite (ih _ _ _ hb) (ih _ _ _ hb)
    | 4 =>
      refine By_eq (by rw [y_X0_smallSteps]) ?_
      exact By_oc (kb_y_X10_small _ _ _ _ hb) (fun _ h221 => By_ite (ih _ _ _ (BY_A (by decide) h221)) (By_no))
    | b + 5 =>
      exact By_eq (by rw [y_X0_smallSteps]) By_no
theorem kb_y_X0_progression {P : Prop} : ∀ (k b : Nat) (L : LV) (σ : CS), BY P σ → By P (y_X0_progression k b L σ) := by
  intro k
  induction k with
  | zero => intro b L σ _; exact By_no
  | succ k ih =>
    intro b L σ hb
    match b with
    | 0 =>
      refine By_eq (by rw [y_X0_progression]) ?_
      exact By_oc (kb_y_X0_areWholes _ _ _ _ hb) (fun _ h222 => By_ite (ih _ _ _ h222) (By_ite (ih _ _ _ h222) (By_oc (kb_y_X1_kind _ _ _ _ h222) (fun _ h223 => By_ite (ih _ _ _ h223) (ih _ _ _ h223)))))
    | 1 =>
      refine By_eq (by rw [y_X0_progression]) ?_
      exact By_so hb
    | 2 =>
      refine By_eq (by rw [y_X0_progression]) ?_
      exact By_ite (By_oc (kb_y_X10_added _ _ _ _ hb) (fun _ h224 => ih _ _ _ h224)) (ih _ _ _ hb)
    | 3 =>
      refine By_eq (by rw [y_X0_progression]) ?_
      exact ih _ _ _ hb
    | 4 =>
      refine By_eq (by rw [y_X0_progression]) ?_
      exact By_oc (kb_y_X11_isError _ _ _ _ hb) (fun _ h225 => By_ite (ih _ _ _ h225) (ih _ _ _ h225))
    | 5 =>
      refine By_eq (by rw [y_X0_progression]) ?_
      exact By_oc (kb_y_X1_compare _ _ _ _ hb) (fun _ h226 => ih _ _ _ h226)
    | 6 =>
      refine By_eq (by rw [y_X0_progression]) ?_
      exact By_oc (kb_y_X11_isError _ _ _ _ hb) (fun _ h227 => By_ite (ih _ _ _ h227) (ih _ _ _ h227))
    | 7 =>
      refine By_eq (by rw [y_X0_progression]) ?_
      exact By_oc (kb_y_X10_added _ _ _ _ hb) (fun _ h228 => ih _ _ _ h228)
    | 8 =>
      refine By_eq (by rw [y_X0_progression]) ?_
      exact By_ite (ih _ _ _ hb) (By_ite (ih _ _ _ hb) (By_ite (ih _ _ _ hb) (By_oc (kb_y_X11_isError _ _ _ _ hb) (fun _ h229 => By_ite (By_oc (kb_y_X10_number _ _ _ _ h229) (fun _ h230 => By_oc (kb_y_X10_number _ _ _ _ h230) (fun _ h231 => ih _ _ _ h231))) (ih _ _ _ h229)))))
    | 9 =>
      refine By_eq (by rw [y_X0_progression]) ?_
      exact ih _ _ _ hb
    | 10 =>
      refine By_eq (by rw [y_X0_progression]) ?_
      exact By_oc (kb_y_X10_number _ _ _ _ hb) (fun _ h232 => By_oc (kb_y_X0_smallSteps _ _ _ _ h232) (fun _ h233 => ih _ _ _ h233))
    | 11 =>
      refine By_eq (by rw [y_X0_progression]) ?_
      exact By_ite (ih _ _ _ hb) (By_ite (ih _ _ _ hb) (By_ite (ih _ _ _ hb) (By_oc (kb_y_X11_isError _ _ _ _ hb) (fun _ h234 => By_ite (By_oc (kb_y_X1_compare _ _ _ _ h234) (fun _ h235 => By_ite (ih _ _ _ h235) (By_oc (kb_y_X1_size _ _ _ _ h235) (fun _ h236 => By_ite (By_ite (ih _ _ _ (BY_A (by decide) h236)) (ih _ _ _ (BY_A (by decide) h236))) (By_no))))) (ih _ _ _ h234)))))
    | 12 =>
      refine By_eq (by rw [y_X0_progression]) ?_
      exact By_ite (ih _ _ _ hb) (By_so hb)
    | 13 =>
      refine By_eq (by rw [y_X0_progression]) ?_
      exact By_oc (kb_y_X11_isError _ _ _ _ hb) (fun _ h237 => By_ite (ih _ _ _ h237) (ih _ _ _ h237))
    | 14 =>
      refine By_eq (by rw [y_X0_progression]) ?_
      exact ih _ _ _ hb
    | 15 =>
      refine By_eq (by rw [y_X0_progression]) ?_
      exact By_ite (By_oc (kb_y_X1_makeTuple__a16 _ _ _ _ hb) (fun _ h238 => By_so h238)) (ih _ _ _ hb)
    | 16 =>
      refine By_eq (by rw [y_X0_progression]) ?_
      exact By_oc (kb_y_X10_added _ _ _ _ hb) (fun _ h239 => ih _ _ _ h239)
    | 17 =>
      refine By_eq (by rw [y_X0_progression]) ?_
      exact ih _ _ _ hb
    | 18 =>
      refine By_eq (by rw [y_X0_progression]) ?_
      exact By_ite (ih _ _ _ hb) (By_ite (By_no) (By_ite (ih _ _ _ hb) (By_ite (By_ite (By_ite (By_ite (ih _ _ _ (BY_A (by decide) (BY_A (by decide) hb))) (By_no)) (By_no)) (By_no)) (By_no))))
    | 19 =>
      refine By_eq (by rw [y_X0_progression]) ?_
      exact By_oc (kb_y_X1_makeRow__a16 _ _ _ _ hb) (fun _ h240 => By_so h240)
    | b + 20 =>
      exact By_eq (by rw [y_X0_progression]) By_no
theorem kb_y_X1_taken {P : Prop} : ∀ (k b : Nat) (L : LV) (σ : CS), BY P σ → By P (y_X1_taken k b L σ) := by
  intro k
  induction k with
  | zero => intro b L σ _; exact By_no
  | succ k ih =>
    intro b L σ hb
    match b with
    | 0 =>
      refine By_eq (by rw [y_X1_taken]) ?_
      exact By_oc (kb_y_X1_kind _ _ _ _ hb) (fun _ h241 => By_ite (By_oc (kb_y_X1_byteAt _ _ _ _ h241) (fun _ h242 => ih _ _ _ h242)) (ih _ _ _ h241))
    | 1 =>
      refine By_eq (by rw [y_X1_taken]) ?_
      exact By_oc (kb_y_X1_member _ _ _ _ hb) (fun _ h243 => ih _ _ _ h243)
    | 2 =>
      refine By_eq (by rw [y_X1_taken]) ?_
      exact By_so hb
    | b + 3 =>
      exact By_eq (by rw [y_X1_taken]) By_no
theorem kb_y_X1_flagged {P : Prop} : ∀ (k b : Nat) (L : LV) (σ : CS), BY P σ → By P (y_X1_flagged k b L σ) := by
  intro k
  induction k with
  | zero => intro b L σ _; exact By_no
  | succ k ih =>
    intro b L σ hb
    match b with
    | 0 =>
      refine By_eq (by rw [y_X1_flagged]) ?_
      exact By_ite (ih _ _ _ hb) (By_ite (By_ite (ih _ _ _ hb) (ih _ _ _ hb)) (By_no))
    | 1 =>
      refine By_eq (by rw [y_X1_flagged]) ?_
      exact ih _ _ _ hb
    | 2 =>
      refine By_eq (by rw [y_X1_flagged]) ?_
      exact By_ite (By_so hb) (By_no)
    | b + 3 =>
      exact By_eq (by rw [y_X1_flagged]) By_no
theorem kb_y_X1_isMap {P : Prop} : ∀ (k b : Nat) (L : LV) (σ : CS), BY P σ → By P (y_X1_isMap k b L σ) := by
  intro k
  induction k with
  | zero => intro b L σ _; exact By_no
  | succ k ih =>
    intro b L σ hb
    match b with
    | 0 =>
      refine By_eq (by rw [y_X1_isMap]) ?_
      exact By_oc (kb_y_X1_kind _ _ _ _ hb) (fun _ h244 => By_ite (By_oc (kb_y_X1_flagged _ _ _ _ h244) (fun _ h245 => By_ite (ih _ _ _ h245) (ih _ _ _ h245))) (ih _ _ _ h244))
    | 1 =>
      refine By_eq (by rw [y_X1_isMap]) ?_
      exact ih _ _ _ hb
    | 2 =>
      refine By_eq (by rw [y_X1_isMap]) ?_
      exact By_ite (By_so hb) (By_no)
    | b + 3 =>
      exact By_eq (by rw [y_X1_isMap]) By_no
theorem kb_y_X0_pairsFrom {P : Prop} : ∀ (k b : Nat) (L : LV) (σ : CS), BY P σ → By P (y_X0_pairsFrom k b L σ) := by
  intro k
  induction k with
  | zero => intro b L σ _; exact By_no
  | succ k ih =>
    intro b L σ hb
    match b with
    | 0 =>
      refine By_eq (by rw [y_X0_pairsFrom]) ?_
      exact By_oc (kb_y_X1_length _ _ _ _ hb) (fun _ h246 => ih _ _ _ h246)
    | 1 =>
      refine By_eq (by rw [y_X0_pairsFrom]) ?_
      exact By_ite (ih _ _ _ hb) (By_ite (ih _ _ _ hb) (By_oc (kb_y_X1_member _ _ _ _ hb) (fun _ h247 => By_oc (kb_y_X1_member _ _ _ _ h247) (fun _ h248 => By_oc (kb_y_X1_compare _ _ _ _ h248) (fun _ h249 => By_ite (ih _ _ _ h249) (ih _ _ _ h249))))))
    | 2 =>
      refine By_eq (by rw [y_X0_pairsFrom]) ?_
      exact By_so hb
    | 3 =>
      refine By_eq (by rw [y_X0_pairsFrom]) ?_
      exact ih _ _ _ hb
    | 4 =>
      refine By_eq (by rw [y_X0_pairsFrom]) ?_
      exact ih _ _ _ hb
    | b + 5 =>
      exact By_eq (by rw [y_X0_pairsFrom]) By_no
theorem kb_y_X0_pairsTo {P : Prop} : ∀ (k b : Nat) (L : LV) (σ : CS), BY P σ → By P (y_X0_pairsTo k b L σ) := by
  intro k
  induction k with
  | zero => intro b L σ _; exact By_no
  | succ k ih =>
    intro b L σ hb
    match b with
    | 0 =>
      refine By_eq (by rw [y_X0_pairsTo]) ?_
      exact ih _ _ _ hb
    | 1 =>
      refine By_eq (by rw [y_X0_pairsTo]) ?_
      exact By_oc (kb_y_X1_length _ _ _ _ hb) (fun _ h250 => By_ite (ih _ _ _ h250) (By_oc (kb_y_X1_member _ _ _ _ h250) (fun _ h251 => By_oc (kb_y_X1_member _ _ _ _ h251) (fun _ h252 => By_oc (kb_y_X1_compare _ _ _ _ h252) (fun _ h253 => By_ite (ih _ _ _ h253) (ih _ _ _ h253))))))
    | 2 =>
      refine By_eq (by rw [y_X0_pairsTo]) ?_
      exact By_so hb
    | b + 3 =>
      exact By_eq (by rw [y_X0_pairsTo]) By_no
theorem kb_y_X0_memberAt {P : Prop} : ∀ (k b : Nat) (L : LV) (σ : CS), BY P σ → By P (y_X0_memberAt k b L σ) := by
  intro k
  induction k with
  | zero => intro b L σ _; exact By_no
  | succ k ih =>
    intro b L σ hb
    match b with
    | 0 =>
      refine By_eq (by rw [y_X0_memberAt]) ?_
      exact By_oc (kb_y_X1_kind _ _ _ _ hb) (fun _ h254 => By_ite (ih _ _ _ h254) (By_ite (ih _ _ _ h254) (ih _ _ _ h254)))
    | 1 =>
      refine By_eq (by rw [y_X0_memberAt]) ?_
      exact By_oc (kb_y_X1_kind _ _ _ _ hb) (fun _ h255 => By_ite (ih _ _ _ h255) (By_so h255))
    | 2 =>
      refine By_eq (by rw [y_X0_memberAt]) ?_
      exact By_oc (kb_y_X1_isMap _ _ _ _ hb) (fun _ h256 => By_ite (By_so h256) (ih _ _ _ h256))
    | 3 =>
      refine By_eq (by rw [y_X0_memberAt]) ?_
      exact By_oc (kb_y_X10_clamped _ _ _ _ hb) (fun _ h257 => By_ite (ih _ _ _ h257) (By_so h257))
    | 4 =>
      refine By_eq (by rw [y_X0_memberAt]) ?_
      exact By_oc (kb_y_X0_pairsFrom _ _ _ _ hb) (fun _ h258 => By_oc (kb_y_X0_pairsTo _ _ _ _ h258) (fun _ h259 => By_ite (By_oc (kb_y_X1_member _ _ _ _ h259) (fun _ h260 => By_oc (kb_y_X1_member _ _ _ _ h260) (fun _ h261 => ih _ _ _ h261))) (ih _ _ _ h259)))
    | 5 =>
      refine By_eq (by rw [y_X0_memberAt]) ?_
      exact By_oc (kb_y_X1_length _ _ _ _ hb) (fun _ h262 => By_ite (ih _ _ _ h262) (By_oc (kb_y_X1_taken _ _ _ _ h262) (fun _ h263 => ih _ _ _ h263)))
    | 6 =>
      refine By_eq (by rw [y_X0_memberAt]) ?_
      exact ih _ _ _ hb
    | 7 =>
      refine By_eq (by rw [y_X0_memberAt]) ?_
      exact By_so hb
    | 8 =>
      refine By_eq (by rw [y_X0_memberAt]) ?_
      exact ih _ _ _ hb
    | 9 =>
      refine By_eq (by rw [y_X0_memberAt]) ?_
      exact By_so hb
    | b + 10 =>
      exact By_eq (by rw [y_X0_memberAt]) By_no
theorem kb_y_X0_rowError {P : Prop} : ∀ (k b : Nat) (L : LV) (σ : CS), BY P σ → By P (y_X0_rowError k b L σ) := by
  intro k
  induction k with
  | zero => intro b L σ _; exact By_no
  | succ k ih =>
    intro b L σ hb
    match b with
    | 0 =>
      refine By_eq (by rw [y_X0_rowError]) ?_
      exact By_oc (kb_y_X1_kind _ _ _ _ hb) (fun _ h264 => By_ite (ih _ _ _ h264) (By_ite (ih _ _ _ h264) (ih _ _ _ h264)))
    | 1 =>
      refine By_eq (by rw [y_X0_rowError]) ?_
      exact By_oc (kb_y_X1_kind _ _ _ _ hb) (fun _ h265 => By_ite (By_oc (kb_y_X1_kind _ _ _ _ h265) (fun _ h266 => By_ite (ih _ _ _ h266) (ih _ _ _ h266))) (ih _ _ _ h265))
    | 2 =>
      refine By_eq (by rw [y_X0_rowError]) ?_
      exact By_so hb
    | 3 =>
      refine By_eq (by rw [y_X0_rowError]) ?_
      exact By_oc (kb_y_X10_clamped _ _ _ _ hb) (fun _ h267 => By_oc (kb_y_X10_clamped _ _ _ _ h267) (fun _ h268 => By_ite (ih _ _ _ h268) (By_ite (ih _ _ _ h268) (By_oc (kb_y_X1_length _ _ _ _ h268) (fun _ h269 => By_ite (ih _ _ _ h269) (ih _ _ _ h269))))))
    | 4 =>
      refine By_eq (by rw [y_X0_rowError]) ?_
      exact ih _ _ _ hb
    | 5 =>
      refine By_eq (by rw [y_X0_rowError]) ?_
      exact By_so hb
    | b + 6 =>
      exact By_eq (by rw [y_X0_rowError]) By_no
theorem kb_y_X0_slice {P : Prop} : ∀ (k b : Nat) (L : LV) (σ : CS), BY P σ → By P (y_X0_slice k b L σ) := by
  intro k
  induction k with
  | zero => intro b L σ _; exact By_no
  | succ k ih =>
    intro b L σ hb
    match b with
    | 0 =>
      refine By_eq (by rw [y_X0_slice]) ?_
      exact By_oc (kb_y_X0_rowError _ _ _ _ hb) (fun _ h270 => By_ite (ih _ _ _ h270) (By_so h270))
    | 1 =>
      refine By_eq (by rw [y_X0_slice]) ?_
      exact By_oc (kb_y_X10_clamped _ _ _ _ hb) (fun _ h271 => By_oc (kb_y_X10_clamped _ _ _ _ h271) (fun _ h272 => By_oc (kb_y_X1_kind _ _ _ _ h272) (fun _ h273 => By_ite (By_oc (kb_y_X1_copyBytes__a15 _ _ _ _ h273) (fun _ h274 => By_oc (kb_y_X1_makeString__a15 _ _ _ _ h274) (fun _ h275 => By_so h275))) (ih _ _ _ h273))))
    | 2 =>
      refine By_eq (by rw [y_X0_slice]) ?_
      exact By_oc (kb_y_X0_load _ _ _ _ hb) (fun _ h276 => By_oc (kb_y_X1_makeTuple__a16 _ _ _ _ h276) (fun _ h277 => By_so h277))
    | b + 3 =>
      exact By_eq (by rw [y_X0_slice]) By_no
theorem kb_y_X0_images {P : Prop} : ∀ (k b : Nat) (L : LV) (σ : CS), BY P σ → By P (y_X0_images k b L σ) := by
  intro k
  induction k with
  | zero => intro b L σ _; exact By_no
  | succ k ih =>
    intro b L σ hb
    match b with
    | 0 =>
      refine By_eq (by rw [y_X0_images]) ?_
      exact By_oc (kb_y_X0_pairsFrom _ _ _ _ hb) (fun _ h278 => By_oc (kb_y_X0_pairsTo _ _ _ _ h278) (fun _ h279 => ih _ _ _ h279))
    | 1 =>
      refine By_eq (by rw [y_X0_images]) ?_
      exact By_ite (ih _ _ _ hb) (By_ite (ih _ _ _ hb) (By_oc (kb_y_X1_member _ _ _ _ hb) (fun _ h280 => By_oc (kb_y_X1_member _ _ _ _ h280) (fun _ h281 => By_ite (ih _ _ _ (BY_A (by decide) h281)) (By_no)))))
    | 2 =>
      refine By_eq (by rw [y_X0_images]) ?_
      exact By_oc (kb_y_X1_makeRow__a16 _ _ _ _ hb) (fun _ h282 => By_so h282)
    | b + 3 =>
      exact By_eq (by rw [y_X0_images]) By_no
theorem kb_y_X0_part {P : Prop} : ∀ (k b : Nat) (L : LV) (σ : CS), BY P σ → By P (y_X0_part k b L σ) := by
  intro k
  induction k with
  | zero => intro b L σ _; exact By_no
  | succ k ih =>
    intro b L σ hb
    match b with
    | 0 =>
      refine By_eq (by rw [y_X0_part]) ?_
      exact By_ite (ih _ _ _ hb) (By_ite (ih _ _ _ hb) (ih _ _ _ hb))
    | 1 =>
      refine By_eq (by rw [y_X0_part]) ?_
      exact By_oc (kb_y_X0_memberAt _ _ _ _ hb) (fun _ h283 => By_so h283)
    | 2 =>
      refine By_eq (by rw [y_X0_part]) ?_
      exact By_oc (kb_y_X0_slice _ _ _ _ hb) (fun _ h284 => By_so h284)
    | 3 =>
      refine By_eq (by rw [y_X0_part]) ?_
      exact By_oc (kb_y_X1_isMap _ _ _ _ hb) (fun _ h285 => By_ite (ih _ _ _ h285) (By_oc (kb_y_X0_images _ _ _ _ h285) (fun _ h286 => ih _ _ _ h286)))
    | 4 =>
      refine By_eq (by rw [y_X0_part]) ?_
      exact ih _ _ _ hb
    | 5 =>
      refine By_eq (by rw [y_X0_part]) ?_
      exact By_so hb
    | b + 6 =>
      exact By_eq (by rw [y_X0_part]) By_no
theorem kb_y_X0_pair {P : Prop} : ∀ (k b : Nat) (L : LV) (σ : CS), BY P σ → By P (y_X0_pair k b L σ) := by
  intro k
  induction k with
  | zero => intro b L σ _; exact By_no
  | succ k ih =>
    intro b L σ hb
    match b with
    | 0 =>
      refine By_eq (by rw [y_X0_pair]) ?_
      exact By_ite (By_ite (By_oc (kb_y_X1_makeRow__a17 _ _ _ _ (BY_A (by decide) (BY_A (by decide) hb))) (fun _ h287 => By_so h287)) (By_no)) (By_no)
    | b + 1 =>
      exact By_eq (by rw [y_X0_pair]) By_no
theorem kb_y_X0_withPair {P : Prop} : ∀ (k b : Nat) (L : LV) (σ : CS), BY P σ → By P (y_X0_withPair k b L σ) := by
  intro k
  induction k with
  | zero => intro b L σ _; exact By_no
  | succ k ih =>
    intro b L σ hb
    match b with
    | 0 =>
      refine By_eq (by rw [y_X0_withPair]) ?_
      exact By_oc (kb_y_X0_pairsFrom _ _ _ _ hb) (fun _ h288 => By_oc (kb_y_X0_pairsTo _ _ _ _ h288) (fun _ h289 => By_oc (kb_y_X0_load _ _ _ _ h289) (fun _ h290 => By_ite (ih _ _ _ h290) (By_oc (kb_y_X0_pair _ _ _ _ h290) (fun _ h291 => By_ite (By_ite (By_oc (kb_y_X11_isError _ _ _ _ (BY_A (by decide) h291)) (fun _ h292 => By_ite (ih _ _ _ h292) (By_ite (By_so h292) (By_no)))) (By_no)) (By_no))))))
    | 1 =>
      refine By_eq (by rw [y_X0_withPair]) ?_
      exact By_oc (kb_y_X1_length _ _ _ _ hb) (fun _ h293 => By_oc (kb_y_X0_load _ _ _ _ h293) (fun _ h294 => By_oc (kb_y_X1_makeRow__a16 _ _ _ _ h294) (fun _ h295 => By_so h295)))
    | 2 =>
      refine By_eq (by rw [y_X0_withPair]) ?_
      exact ih _ _ _ hb
    | b + 3 =>
      exact By_eq (by rw [y_X0_withPair]) By_no
theorem kb_y_X0_withMember {P : Prop} : ∀ (k b : Nat) (L : LV) (σ : CS), BY P σ → By P (y_X0_withMember k b L σ) := by
  intro k
  induction k with
  | zero => intro b L σ _; exact By_no
  | succ k ih =>
    intro b L σ hb
    match b with
    | 0 =>
      refine By_eq (by rw [y_X0_withMember]) ?_
      exact By_oc (kb_y_X1_kind _ _ _ _ hb) (fun _ h296 => By_ite (ih _ _ _ h296) (By_ite (By_oc (kb_y_X1_kind _ _ _ _ h296) (fun _ h297 => By_ite (By_oc (kb_y_X1_length _ _ _ _ h297) (fun _ h298 => By_ite (ih _ _ _ h298) (ih _ _ _ h298))) (ih _ _ _ h297))) (ih _ _ _ h296)))
    | 1 =>
      refine By_eq (by rw [y_X0_withMember]) ?_
      exact ih _ _ _ hb
    | 2 =>
      refine By_eq (by rw [y_X0_withMember]) ?_
      exact ih _ _ _ hb
    | 3 =>
      refine By_eq (by rw [y_X0_withMember]) ?_
      exact By_ite (ih _ _ _ hb) (By_oc (kb_y_X1_kind _ _ _ _ hb) (fun _ h299 => By_ite (ih _ _ _ h299) (ih _ _ _ h299)))
    | 4 =>
      refine By_eq (by rw [y_X0_withMember]) ?_
      exact By_so hb
    | 5 =>
      refine By_eq (by rw [y_X0_withMember]) ?_
      exact By_oc (kb_y_X10_clamped _ _ _ _ hb) (fun _ h300 => By_oc (kb_y_X1_length _ _ _ _ h300) (fun _ h301 => By_ite (ih _ _ _ h301) (By_ite (By_ite (ih _ _ _ h301) (ih _ _ _ h301)) (ih _ _ _ h301))))
    | 6 =>
      refine By_eq (by rw [y_X0_withMember]) ?_
      exact By_so hb
    | 7 =>
      refine By_eq (by rw [y_X0_withMember]) ?_
      exact By_ite (By_oc (kb_y_X1_copyBytes__a15 _ _ _ _ hb) (fun _ h302 => By_oc (kb_y_X1_byteAt _ _ _ _ h302) (fun _ h303 => By_ite (By_oc (kb_y_X1_makeString__a15 _ _ _ _ (BY_A (by decide) h303)) (fun _ h304 => By_so h304)) (By_no)))) (ih _ _ _ hb)
    | 8 =>
      refine By_eq (by rw [y_X0_withMember]) ?_
      exact By_ite (ih _ _ _ hb) (By_ite (By_so hb) (ih _ _ _ hb))
    | 9 =>
      refine By_eq (by rw [y_X0_withMember]) ?_
      exact By_ite (ih _ _ _ hb) (By_so hb)
    | 10 =>
      refine By_eq (by rw [y_X0_withMember]) ?_
      exact By_oc (kb_y_X0_load _ _ _ _ hb) (fun _ h305 => ih _ _ _ h305)
    | 11 =>
      refine By_eq (by rw [y_X0_withMember]) ?_
      exact By_ite (ih _ _ _ hb) (By_ite (ih _ _ _ (BY_A (by decide) hb)) (By_no))
    | 12 =>
      refine By_eq (by rw [y_X0_withMember]) ?_
      exact By_ite (By_oc (kb_y_X1_makeTuple__a16 _ _ _ _ (BY_A (by decide) hb)) (fun _ h306 => By_so h306)) (By_no)
    | b + 13 =>
      exact By_eq (by rw [y_X0_withMember]) By_no
theorem kb_y_X0_withSlice {P : Prop} : ∀ (k b : Nat) (L : LV) (σ : CS), BY P σ → By P (y_X0_withSlice k b L σ) := by
  intro k
  induction k with
  | zero => intro b L σ _; exact By_no
  | succ k ih =>
    intro b L σ hb
    match b with
    | 0 =>
      refine By_eq (by rw [y_X0_withSlice]) ?_
      exact By_oc (kb_y_X1_kind _ _ _ _ hb) (fun _ h307 => By_oc (kb_y_X1_kind _ _ _ _ h307) (fun _ h308 => By_ite (By_oc (kb_y_X0_rowError _ _ _ _ h308) (fun _ h309 => ih _ _ _ h309)) (ih _ _ _ h308)))
    | 1 =>
      refine By_eq (by rw [y_X0_withSlice]) ?_
      exact ih _ _ _ hb
    | 2 =>
      refine By_eq (by rw [y_X0_withSlice]) ?_
      exact By_ite (ih _ _ _ hb) (By_so hb)
    | 3 =>
      refine By_eq (by rw [y_X0_withSlice]) ?_
      exact By_oc (kb_y_X10_clamped _ _ _ _ hb) (fun _ h310 => By_oc (kb_y_X10_clamped _ _ _ _ h310) (fun _ h311 => By_oc (kb_y_X1_length _ _ _ _ h311) (fun _ h312 => By_oc (kb_y_X1_kind _ _ _ _ h312) (fun _ h313 => By_ite (By_oc (kb_y_X1_copyBytes__a15 _ _ _ _ h313) (fun _ h314 => By_oc (kb_y_X1_length _ _ _ _ h314) (fun _ h315 => By_oc (kb_y_X1_copyBytes__a15 _ _ _ _ h315) (fun _ h316 => By_oc (kb_y_X1_copyBytes__a15 _ _ _ _ h316) (fun _ h317 => By_oc (kb_y_X1_makeString__a15 _ _ _ _ h317) (fun _ h318 => By_so h318)))))) (ih _ _ _ h313)))))
    | 4 =>
      refine By_eq (by rw [y_X0_withSlice]) ?_
      exact By_oc (kb_y_X0_load _ _ _ _ hb) (fun _ h319 => By_oc (kb_y_X1_length _ _ _ _ h319) (fun _ h320 => By_oc (kb_y_X0_load _ _ _ _ h320) (fun _ h321 => By_oc (kb_y_X0_load _ _ _ _ h321) (fun _ h322 => By_oc (kb_y_X1_makeTuple__a16 _ _ _ _ h322) (fun _ h323 => By_so h323)))))
    | b + 5 =>
      exact By_eq (by rw [y_X0_withSlice]) By_no
theorem kb_y_X0_withImages {P : Prop} : ∀ (k b : Nat) (L : LV) (σ : CS), BY P σ → By P (y_X0_withImages k b L σ) := by
  intro k
  induction k with
  | zero => intro b L σ _; exact By_no
  | succ k ih =>
    intro b L σ hb
    match b with
    | 0 =>
      refine By_eq (by rw [y_X0_withImages]) ?_
      exact By_oc (kb_y_X0_pairsFrom _ _ _ _ hb) (fun _ h324 => By_oc (kb_y_X0_pairsTo _ _ _ _ h324) (fun _ h325 => By_oc (kb_y_X1_size _ _ _ _ h325) (fun _ h326 => By_oc (kb_y_X1_size _ _ _ _ h326) (fun _ h327 => By_oc (kb_y_X1_length _ _ _ _ h327) (fun _ h328 => By_oc (kb_y_X1_size _ _ _ _ h328) (fun _ h329 => ih _ _ _ h329))))))
    | 1 =>
      refine By_eq (by rw [y_X0_withImages]) ?_
      exact By_ite (ih _ _ _ hb) (By_oc (kb_y_X1_member _ _ _ _ hb) (fun _ h330 => By_oc (kb_y_X1_size _ _ _ _ h330) (fun _ h331 => ih _ _ _ h331)))
    | 2 =>
      refine By_eq (by rw [y_X0_withImages]) ?_
      exact By_ite (ih _ _ _ hb) (By_so hb)
    | 3 =>
      refine By_eq (by rw [y_X0_withImages]) ?_
      exact By_oc (kb_y_X0_load _ _ _ _ hb) (fun _ h332 => ih _ _ _ h332)
    | 4 =>
      refine By_eq (by rw [y_X0_withImages]) ?_
      exact By_oc (kb_y_X1_length _ _ _ _ hb) (fun _ h333 => By_ite (ih _ _ _ h333) (By_ite (ih _ _ _ h333) (By_oc (kb_y_X1_member _ _ _ _ h333) (fun _ h334 => By_oc (kb_y_X0_pair _ _ _ _ h334) (fun _ h335 => By_ite (By_ite (By_oc (kb_y_X11_isError _ _ _ _ (BY_A (by decide) h335)) (fun _ h336 => By_ite (ih _ _ _ h336) (By_ite (By_so h336) (By_no)))) (By_no)) (By_no))))))
    | 5 =>
      refine By_eq (by rw [y_X0_withImages]) ?_
      exact By_oc (kb_y_X1_length _ _ _ _ hb) (fun _ h337 => By_oc (kb_y_X0_load _ _ _ _ h337) (fun _ h338 => By_oc (kb_y_X1_makeRow__a16 _ _ _ _ h338) (fun _ h339 => By_so h339)))
    | 6 =>
      refine By_eq (by rw [y_X0_withImages]) ?_
      exact ih _ _ _ hb
    | b + 7 =>
      exact By_eq (by rw [y_X0_withImages]) By_no
theorem kb_y_X0_written {P : Prop} : ∀ (k b : Nat) (L : LV) (σ : CS), BY P σ → By P (y_X0_written k b L σ) := by
  intro k
  induction k with
  | zero => intro b L σ _; exact By_no
  | succ k ih =>
    intro b L σ hb
    match b with
    | 0 =>
      refine By_eq (by rw [y_X0_written]) ?_
      exact By_ite (ih _ _ _ hb) (By_ite (ih _ _ _ hb) (ih _ _ _ hb))
    | 1 =>
      refine By_eq (by rw [y_X0_written]) ?_
      exact By_oc (kb_y_X1_isMap _ _ _ _ hb) (fun _ h340 => By_ite (ih _ _ _ h340) (By_oc (kb_y_X0_withPair _ _ _ _ h340) (fun _ h341 => ih _ _ _ h341)))
    | 2 =>
      refine By_eq (by rw [y_X0_written]) ?_
      exact By_oc (kb_y_X0_withSlice _ _ _ _ hb) (fun _ h342 => By_so h342)
    | 3 =>
      refine By_eq (by rw [y_X0_written]) ?_
      exact By_oc (kb_y_X1_isMap _ _ _ _ hb) (fun _ h343 => By_ite (ih _ _ _ h343) (By_oc (kb_y_X1_kind _ _ _ _ h343) (fun _ h344 => By_ite (By_oc (kb_y_X0_withImages _ _ _ _ h344) (fun _ h345 => ih _ _ _ h345)) (ih _ _ _ h344))))
    | 4 =>
      refine By_eq (by rw [y_X0_written]) ?_
      exact By_oc (kb_y_X0_withMember _ _ _ _ hb) (fun _ h346 => ih _ _ _ h346)
    | 5 =>
      refine By_eq (by rw [y_X0_written]) ?_
      exact By_so hb
    | 6 =>
      refine By_eq (by rw [y_X0_written]) ?_
      exact ih _ _ _ hb
    | 7 =>
      refine By_eq (by rw [y_X0_written]) ?_
      exact By_so hb
    | b + 8 =>
      exact By_eq (by rw [y_X0_written]) By_no
theorem kb_y_X0_remainder {P : Prop} : ∀ (k b : Nat) (L : LV) (σ : CS), BY P σ → By P (y_X0_remainder k b L σ) := by
  intro k
  induction k with
  | zero => intro b L σ _; exact By_no
  | succ k ih =>
    intro b L σ hb
    match b with
    | 0 =>
      refine By_eq (by rw [y_X0_remainder]) ?_
      exact By_oc (kb_y_X1_length _ _ _ _ hb) (fun _ h347 => By_ite (ih _ _ _ h347) (ih _ _ _ h347))
    | 1 =>
      refine By_eq (by rw [y_X0_remainder]) ?_
      exact ih _ _ _ hb
    | 2 =>
      refine By_eq (by rw [y_X0_remainder]) ?_
      exact By_ite (ih _ _ _ hb) (ih _ _ _ hb)
    | 3 =>
      refine By_eq (by rw [y_X0_remainder]) ?_
      exact ih _ _ _ hb
    | 4 =>
      refine By_eq (by rw [y_X0_remainder]) ?_
      exact By_oc (kb_y_X1_kind _ _ _ _ hb) (fun _ h348 => By_ite (By_oc (kb_y_X1_copyBytes__a15 _ _ _ _ h348) (fun _ h349 => By_oc (kb_y_X1_makeString__a15 _ _ _ _ h349) (fun _ h350 => By_so h350))) (ih _ _ _ h348))
    | 5 =>
      refine By_eq (by rw [y_X0_remainder]) ?_
      exact By_oc (kb_y_X0_load _ _ _ _ hb) (fun _ h351 => By_ite (By_oc (kb_y_X1_makeRow__a16 _ _ _ _ h351) (fun _ h352 => ih _ _ _ h352)) (ih _ _ _ h351))
    | 6 =>
      refine By_eq (by rw [y_X0_remainder]) ?_
      exact By_oc (kb_y_X1_makeTuple__a16 _ _ _ _ hb) (fun _ h353 => ih _ _ _ h353)
    | 7 =>
      refine By_eq (by rw [y_X0_remainder]) ?_
      exact By_so hb
    | b + 8 =>
      exact By_eq (by rw [y_X0_remainder]) By_no
theorem kb_y_X1_wordsBehind {P : Prop} : ∀ (k b : Nat) (L : LV) (σ : CS), BY P σ → By P (y_X1_wordsBehind k b L σ) := by
  intro k
  induction k with
  | zero => intro b L σ _; exact By_no
  | succ k ih =>
    intro b L σ hb
    match b with
    | 0 =>
      refine By_eq (by rw [y_X1_wordsBehind]) ?_
      exact By_ite (ih _ _ _ hb) (ih _ _ _ hb)
    | 1 =>
      refine By_eq (by rw [y_X1_wordsBehind]) ?_
      exact ih _ _ _ hb
    | 2 =>
      refine By_eq (by rw [y_X1_wordsBehind]) ?_
      exact By_so hb
    | b + 3 =>
      exact By_eq (by rw [y_X1_wordsBehind]) By_no
theorem kb_y_X1_isTight {P : Prop} : ∀ (k b : Nat) (L : LV) (σ : CS), BY P σ → By P (y_X1_isTight k b L σ) := by
  intro k
  induction k with
  | zero => intro b L σ _; exact By_no
  | succ k ih =>
    intro b L σ hb
    match b with
    | 0 =>
      refine By_eq (by rw [y_X1_isTight]) ?_
      exact By_ite (ih _ _ _ hb) (ih _ _ _ hb)
    | 1 =>
      refine By_eq (by rw [y_X1_isTight]) ?_
      exact ih _ _ _ hb
    | 2 =>
      refine By_eq (by rw [y_X1_isTight]) ?_
      exact By_ite (By_so hb) (By_no)
    | b + 3 =>
      exact By_eq (by rw [y_X1_isTight]) By_no
theorem kb_y_X1_isScarce {P : Prop} : ∀ (k b : Nat) (L : LV) (σ : CS), BY P σ → By P (y_X1_isScarce k b L σ) := by
  intro k
  induction k with
  | zero => intro b L σ _; exact By_no
  | succ k ih =>
    intro b L σ hb
    match b with
    | 0 =>
      refine By_eq (by rw [y_X1_isScarce]) ?_
      exact By_ite (By_no) (By_ite (ih _ _ _ hb) (ih _ _ _ hb))
    | 1 =>
      refine By_eq (by rw [y_X1_isScarce]) ?_
      exact ih _ _ _ hb
    | 2 =>
      refine By_eq (by rw [y_X1_isScarce]) ?_
      exact By_ite (By_so hb) (By_no)
    | b + 3 =>
      exact By_eq (by rw [y_X1_isScarce]) By_no
theorem kb_y_J7_fill_53178__z1 {P : Prop} : ∀ (k b : Nat) (L : LV) (σ : CS), BY P σ → By P (y_J7_fill_53178__z1 k b L σ) := by
  intro k
  induction k with
  | zero => intro b L σ _; exact By_no
  | succ k ih =>
    intro b L σ hb
    match b with
    | 0 =>
      refine By_eq (by rw [y_J7_fill_53178__z1]) ?_
      exact ih _ _ _ hb
    | 1 =>
      refine By_eq (by rw [y_J7_fill_53178__z1]) ?_
      exact By_ite (ih _ _ _ hb) (By_ite (ih _ _ _ (BY_A (by decide) hb)) (By_no))
    | 2 =>
      refine By_eq (by rw [y_J7_fill_53178__z1]) ?_
      exact By_so hb
    | b + 3 =>
      exact By_eq (by rw [y_J7_fill_53178__z1]) By_no
theorem kb_y_X1_beginMarking {P : Prop} : ∀ (k b : Nat) (L : LV) (σ : CS), BY P σ → By P (y_X1_beginMarking k b L σ) := by
  intro k
  induction k with
  | zero => intro b L σ _; exact By_no
  | succ k ih =>
    intro b L σ hb
    match b with
    | 0 =>
      refine By_eq (by rw [y_X1_beginMarking]) ?_
      exact By_oc (kb_y_J7_fill_53178__z1 _ _ _ _ hb) (fun _ h354 => By_ite (By_so (BY_A (by decide) h354)) (By_no))
    | b + 1 =>
      exact By_eq (by rw [y_X1_beginMarking]) By_no
theorem kb_t_X1_markCell {P : Prop} {X : Nat → Nat → Nat → LV → CS → Option (Int32 × CS)} (hX : ∀ e m b L (σ : CS), BY P σ → By P (X e m b L σ)) (K d b : Nat) (L : LV) (σ : CS) (hb : BY P σ) : By P (t_X1_markCell X K d b L σ) := by
  match b with
  | 0 => exact By_ite (By_ite (hX _ _ _ _ _ hb) (By_so hb)) (By_no)
  | 1 => exact By_ite (By_ite (By_ite (hX _ _ _ _ _ hb) (hX _ _ _ _ _ hb)) (By_no)) (By_no)
  | 2 => exact hX _ _ _ _ _ hb
  | 3 => exact hX _ _ _ _ _ hb
  | 4 => exact By_ite (hX _ _ _ _ _ hb) (By_ite (By_ite (hX _ _ _ _ _ (BY_A (by decide) hb)) (By_no)) (By_no))
  | 5 => exact hX _ _ _ _ _ hb
  | 6 => exact By_ite (hX _ _ _ _ _ hb) (By_ite (hX _ _ _ _ _ hb) (By_ite (By_ite (hX _ _ _ _ _ hb) (By_ite (By_oe (fun _ => By_oc (hX _ _ _ _ _ hb) (fun _ h355 => hX _ _ _ _ _ h355))) (By_no))) (By_no)))
  | 7 => exact By_so hb
  | 8 => exact hX _ _ _ _ _ hb
  | b + 9 => exact By_no
theorem kb_y_H2 {P : Prop} : ∀ (k d m b : Nat) (L : LV) (σ : CS), BY P σ → By P (y_H2 k d m b L σ) := by
  intro k
  induction k with
  | zero => intro d m b L σ _; exact By_no
  | succ k ih =>
    intro d m b L σ hb
    match m with
    | 0 => exact kb_t_X1_markCell ih k d b L σ hb
    | m + 1 => exact By_no
theorem kb_y_X1_markCell {P : Prop} (k b : Nat) (L : LV) (σ : CS) (hb : BY P σ) : By P (y_X1_markCell k b L σ) := kb_y_H2 k 60 0 b L σ hb
theorem kb_y_J6_bitCount_0f7a4 {P : Prop} : ∀ (k b : Nat) (L : LV) (σ : CS), BY P σ → By P (y_J6_bitCount_0f7a4 k b L σ) := by
  intro k
  induction k with
  | zero => intro b L σ _; exact By_no
  | succ k ih =>
    intro b L σ hb
    match b with
    | 0 =>
      refine By_eq (by rw [y_J6_bitCount_0f7a4]) ?_
      exact By_so hb
    | b + 1 =>
      exact By_eq (by rw [y_J6_bitCount_0f7a4]) By_no
theorem kb_y_X1_endMarking {P : Prop} : ∀ (k b : Nat) (L : LV) (σ : CS), BY P σ → By P (y_X1_endMarking k b L σ) := by
  intro k
  induction k with
  | zero => intro b L σ _; exact By_no
  | succ k ih =>
    intro b L σ hb
    match b with
    | 0 =>
      refine By_eq (by rw [y_X1_endMarking]) ?_
      exact ih _ _ _ hb
    | 1 =>
      refine By_eq (by rw [y_X1_endMarking]) ?_
      exact By_ite (ih _ _ _ hb) (By_ite (By_ite (By_oc (kb_y_J6_bitCount_0f7a4 _ _ _ _ (BY_A (by decide) hb)) (fun _ h356 => ih _ _ _ h356)) (By_no)) (By_no))
    | 2 =>
      refine By_eq (by rw [y_X1_endMarking]) ?_
      exact By_so hb
    | b + 3 =>
      exact By_eq (by rw [y_X1_endMarking]) By_no
theorem kb_y_X1_placeOf {P : Prop} : ∀ (k b : Nat) (L : LV) (σ : CS), BY P σ → By P (y_X1_placeOf k b L σ) := by
  intro k
  induction k with
  | zero => intro b L σ _; exact By_no
  | succ k ih =>
    intro b L σ hb
    match b with
    | 0 =>
      refine By_eq (by rw [y_X1_placeOf]) ?_
      exact By_ite (By_ite (By_oc (kb_y_J6_bitCount_0f7a4 _ _ _ _ hb) (fun _ h357 => By_so h357)) (By_no)) (By_no)
    | b + 1 =>
      exact By_eq (by rw [y_X1_placeOf]) By_no
theorem kb_y_X1_moveCells {P : Prop} : ∀ (k b : Nat) (L : LV) (σ : CS), BY P σ → By P (y_X1_moveCells k b L σ) := by
  intro k
  induction k with
  | zero => intro b L σ _; exact By_no
  | succ k ih =>
    intro b L σ hb
    match b with
    | 0 =>
      refine By_eq (by rw [y_X1_moveCells]) ?_
      exact ih _ _ _ hb
    | 1 =>
      refine By_eq (by rw [y_X1_moveCells]) ?_
      exact By_ite (ih _ _ _ hb) (By_ite (By_oc (kb_y_X1_wordsBehind _ _ _ _ hb) (fun _ h358 => By_ite (By_ite (ih _ _ _ h358) (ih _ _ _ h358)) (By_no))) (By_no))
    | 2 =>
      refine By_eq (by rw [y_X1_moveCells]) ?_
      exact By_so (BY_I (by decide) hb)
    | 3 =>
      refine By_eq (by rw [y_X1_moveCells]) ?_
      exact ih _ _ _ hb
    | 4 =>
      refine By_eq (by rw [y_X1_moveCells]) ?_
      exact By_ite (ih _ _ _ hb) (By_ite (ih _ _ _ hb) (By_ite (By_ite (ih _ _ _ hb) (By_ite (By_oc (kb_y_X1_placeOf _ _ _ _ hb) (fun _ h359 => ih _ _ _ h359)) (By_no))) (By_no)))
    | 5 =>
      refine By_eq (by rw [y_X1_moveCells]) ?_
      exact By_ite (ih _ _ _ (BY_F (by decide) hb)) (By_no)
    | 6 =>
      refine By_eq (by rw [y_X1_moveCells]) ?_
      exact By_ite (ih _ _ _ hb) (By_no)
    | 7 =>
      refine By_eq (by rw [y_X1_moveCells]) ?_
      exact By_ite (ih _ _ _ (BY_A (by decide) hb)) (By_no)
    | b + 8 =>
      exact By_eq (by rw [y_X1_moveCells]) By_no
theorem kb_y_X3_global {P : Prop} : ∀ (k b : Nat) (L : LV) (σ : CS), BY P σ → By P (y_X3_global k b L σ) := by
  intro k
  induction k with
  | zero => intro b L σ _; exact By_no
  | succ k ih =>
    intro b L σ hb
    match b with
    | 0 =>
      refine By_eq (by rw [y_X3_global]) ?_
      exact By_ite (By_so hb) (By_no)
    | b + 1 =>
      exact By_eq (by rw [y_X3_global]) By_no
theorem kb_y_X9_used {P : Prop} : ∀ (k b : Nat) (L : LV) (σ : CS), BY P σ → By P (y_X9_used k b L σ) := by
  intro k
  induction k with
  | zero => intro b L σ _; exact By_no
  | succ k ih =>
    intro b L σ hb
    match b with
    | 0 =>
      refine By_eq (by rw [y_X9_used]) ?_
      exact By_ite (ih _ _ _ hb) (By_ite (By_ite (By_ite (By_ite (ih _ _ _ hb) (By_no)) (By_no)) (By_no)) (By_no))
    | 1 =>
      refine By_eq (by rw [y_X9_used]) ?_
      exact ih _ _ _ hb
    | 2 =>
      refine By_eq (by rw [y_X9_used]) ?_
      exact By_so hb
    | b + 3 =>
      exact By_eq (by rw [y_X9_used]) By_no
theorem kb_y_X1_markRow__z20 {P : Prop} : ∀ (k b : Nat) (L : LV) (σ : CS), BY P σ → By P (y_X1_markRow__z20 k b L σ) := by
  intro k
  induction k with
  | zero => intro b L σ _; exact By_no
  | succ k ih =>
    intro b L σ hb
    match b with
    | 0 =>
      refine By_eq (by rw [y_X1_markRow__z20]) ?_
      exact ih _ _ _ hb
    | 1 =>
      refine By_eq (by rw [y_X1_markRow__z20]) ?_
      exact By_ite (ih _ _ _ hb) (By_ite (By_ite (ih _ _ _ hb) (By_ite (By_oc (kb_y_X1_markCell _ _ _ _ hb) (fun _ h360 => ih _ _ _ h360)) (By_no))) (By_no))
    | 2 =>
      refine By_eq (by rw [y_X1_markRow__z20]) ?_
      exact By_so hb
    | 3 =>
      refine By_eq (by rw [y_X1_markRow__z20]) ?_
      exact ih _ _ _ hb
    | b + 4 =>
      exact By_eq (by rw [y_X1_markRow__z20]) By_no
theorem kb_y_X1_markRow__a23 {P : Prop} : ∀ (k b : Nat) (L : LV) (σ : CS), BY P σ → By P (y_X1_markRow__a23 k b L σ) := by
  intro k
  induction k with
  | zero => intro b L σ _; exact By_no
  | succ k ih =>
    intro b L σ hb
    match b with
    | 0 =>
      refine By_eq (by rw [y_X1_markRow__a23]) ?_
      exact ih _ _ _ hb
    | 1 =>
      refine By_eq (by rw [y_X1_markRow__a23]) ?_
      exact By_ite (ih _ _ _ hb) (By_ite (By_ite (ih _ _ _ hb) (By_ite (By_oc (kb_y_X1_markCell _ _ _ _ hb) (fun _ h361 => ih _ _ _ h361)) (By_no))) (By_no))
    | 2 =>
      refine By_eq (by rw [y_X1_markRow__a23]) ?_
      exact By_so hb
    | 3 =>
      refine By_eq (by rw [y_X1_markRow__a23]) ?_
      exact ih _ _ _ hb
    | b + 4 =>
      exact By_eq (by rw [y_X1_markRow__a23]) By_no
theorem kb_y_X1_markRow__z21 {P : Prop} : ∀ (k b : Nat) (L : LV) (σ : CS), BY P σ → By P (y_X1_markRow__z21 k b L σ) := by
  intro k
  induction k with
  | zero => intro b L σ _; exact By_no
  | succ k ih =>
    intro b L σ hb
    match b with
    | 0 =>
      refine By_eq (by rw [y_X1_markRow__z21]) ?_
      exact ih _ _ _ hb
    | 1 =>
      refine By_eq (by rw [y_X1_markRow__z21]) ?_
      exact By_ite (ih _ _ _ hb) (By_ite (By_ite (ih _ _ _ hb) (By_ite (By_oc (kb_y_X1_markCell _ _ _ _ hb) (fun _ h362 => ih _ _ _ h362)) (By_no))) (By_no))
    | 2 =>
      refine By_eq (by rw [y_X1_markRow__z21]) ?_
      exact By_so hb
    | 3 =>
      refine By_eq (by rw [y_X1_markRow__z21]) ?_
      exact ih _ _ _ hb
    | b + 4 =>
      exact By_eq (by rw [y_X1_markRow__z21]) By_no
theorem kb_y_X1_markRow__a67 {P : Prop} : ∀ (k b : Nat) (L : LV) (σ : CS), BY P σ → By P (y_X1_markRow__a67 k b L σ) := by
  intro k
  induction k with
  | zero => intro b L σ _; exact By_no
  | succ k ih =>
    intro b L σ hb
    match b with
    | 0 =>
      refine By_eq (by rw [y_X1_markRow__a67]) ?_
      exact ih _ _ _ hb
    | 1 =>
      refine By_eq (by rw [y_X1_markRow__a67]) ?_
      exact By_ite (ih _ _ _ hb) (By_ite (By_ite (ih _ _ _ hb) (By_ite (By_oc (kb_y_X1_markCell _ _ _ _ hb) (fun _ h363 => ih _ _ _ h363)) (By_no))) (By_no))
    | 2 =>
      refine By_eq (by rw [y_X1_markRow__a67]) ?_
      exact By_so hb
    | 3 =>
      refine By_eq (by rw [y_X1_markRow__a67]) ?_
      exact ih _ _ _ hb
    | b + 4 =>
      exact By_eq (by rw [y_X1_markRow__a67]) By_no
theorem kb_y_X1_markRow__z26 {P : Prop} : ∀ (k b : Nat) (L : LV) (σ : CS), BY P σ → By P (y_X1_markRow__z26 k b L σ) := by
  intro k
  induction k with
  | zero => intro b L σ _; exact By_no
  | succ k ih =>
    intro b L σ hb
    match b with
    | 0 =>
      refine By_eq (by rw [y_X1_markRow__z26]) ?_
      exact ih _ _ _ hb
    | 1 =>
      refine By_eq (by rw [y_X1_markRow__z26]) ?_
      exact By_ite (ih _ _ _ hb) (By_ite (By_ite (ih _ _ _ hb) (By_ite (By_oc (kb_y_X1_markCell _ _ _ _ hb) (fun _ h364 => ih _ _ _ h364)) (By_no))) (By_no))
    | 2 =>
      refine By_eq (by rw [y_X1_markRow__z26]) ?_
      exact By_so hb
    | 3 =>
      refine By_eq (by rw [y_X1_markRow__z26]) ?_
      exact ih _ _ _ hb
    | b + 4 =>
      exact By_eq (by rw [y_X1_markRow__z26]) By_no
theorem kb_y_X1_moveRow__z20 {P : Prop} : ∀ (k b : Nat) (L : LV) (σ : CS), BY P σ → By P (y_X1_moveRow__z20 k b L σ) := by
  intro k
  induction k with
  | zero => intro b L σ _; exact By_no
  | succ k ih =>
    intro b L σ hb
    match b with
    | 0 =>
      refine By_eq (by rw [y_X1_moveRow__z20]) ?_
      exact ih _ _ _ hb
    | 1 =>
      refine By_eq (by rw [y_X1_moveRow__z20]) ?_
      exact By_ite (ih _ _ _ hb) (By_ite (By_ite (ih _ _ _ hb) (By_ite (By_oc (kb_y_X1_placeOf _ _ _ _ hb) (fun _ h365 => By_ite (ih _ _ _ (BY_A (by decide) h365)) (By_no))) (By_no))) (By_no))
    | 2 =>
      refine By_eq (by rw [y_X1_moveRow__z20]) ?_
      exact By_so hb
    | 3 =>
      refine By_eq (by rw [y_X1_moveRow__z20]) ?_
      exact ih _ _ _ hb
    | b + 4 =>
      exact By_eq (by rw [y_X1_moveRow__z20]) By_no
theorem kb_y_X1_moveRow__a23 {P : Prop} : ∀ (k b : Nat) (L : LV) (σ : CS), BY P σ → By P (y_X1_moveRow__a23 k b L σ) := by
  intro k
  induction k with
  | zero => intro b L σ _; exact By_no
  | succ k ih =>
    intro b L σ hb
    match b with
    | 0 =>
      refine By_eq (by rw [y_X1_moveRow__a23]) ?_
      exact ih _ _ _ hb
    | 1 =>
      refine By_eq (by rw [y_X1_moveRow__a23]) ?_
      exact By_ite (ih _ _ _ hb) (By_ite (By_ite (ih _ _ _ hb) (By_ite (By_oc (kb_y_X1_placeOf _ _ _ _ hb) (fun _ h366 => By_ite (ih _ _ _ (BY_A (by decide) h366)) (By_no))) (By_no))) (By_no))
    | 2 =>
      refine By_eq (by rw [y_X1_moveRow__a23]) ?_
      exact By_so hb
    | 3 =>
      refine By_eq (by rw [y_X1_moveRow__a23]) ?_
      exact ih _ _ _ hb
    | b + 4 =>
      exact By_eq (by rw [y_X1_moveRow__a23]) By_no
theorem kb_y_X1_moveRow__z21 {P : Prop} : ∀ (k b : Nat) (L : LV) (σ : CS), BY P σ → By P (y_X1_moveRow__z21 k b L σ) := by
  intro k
  induction k with
  | zero => intro b L σ _; exact By_no
  | succ k ih =>
    intro b L σ hb
    match b with
    | 0 =>
      refine By_eq (by rw [y_X1_moveRow__z21]) ?_
      exact ih _ _ _ hb
    | 1 =>
      refine By_eq (by rw [y_X1_moveRow__z21]) ?_
      exact By_ite (ih _ _ _ hb) (By_ite (By_ite (ih _ _ _ hb) (By_ite (By_oc (kb_y_X1_placeOf _ _ _ _ hb) (fun _ h367 => By_ite (ih _ _ _ (BY_A (by decide) h367)) (By_no))) (By_no))) (By_no))
    | 2 =>
      refine By_eq (by rw [y_X1_moveRow__z21]) ?_
      exact By_so hb
    | 3 =>
      refine By_eq (by rw [y_X1_moveRow__z21]) ?_
      exact ih _ _ _ hb
    | b + 4 =>
      exact By_eq (by rw [y_X1_moveRow__z21]) By_no
theorem kb_y_X1_moveRow__a67 {P : Prop} : ∀ (k b : Nat) (L : LV) (σ : CS), BY P σ → By P (y_X1_moveRow__a67 k b L σ) := by
  intro k
  induction k with
  | zero => intro b L σ _; exact By_no
  | succ k ih =>
    intro b L σ hb
    match b with
    | 0 =>
      refine By_eq (by rw [y_X1_moveRow__a67]) ?_
      exact ih _ _ _ hb
    | 1 =>
      refine By_eq (by rw [y_X1_moveRow__a67]) ?_
      exact By_ite (ih _ _ _ hb) (By_ite (By_ite (ih _ _ _ hb) (By_ite (By_oc (kb_y_X1_placeOf _ _ _ _ hb) (fun _ h368 => By_ite (ih _ _ _ (BY_A (by decide) h368)) (By_no))) (By_no))) (By_no))
    | 2 =>
      refine By_eq (by rw [y_X1_moveRow__a67]) ?_
      exact By_so hb
    | 3 =>
      refine By_eq (by rw [y_X1_moveRow__a67]) ?_
      exact ih _ _ _ hb
    | b + 4 =>
      exact By_eq (by rw [y_X1_moveRow__a67]) By_no
theorem kb_y_X1_moveRow__z26 {P : Prop} : ∀ (k b : Nat) (L : LV) (σ : CS), BY P σ → By P (y_X1_moveRow__z26 k b L σ) := by
  intro k
  induction k with
  | zero => intro b L σ _; exact By_no
  | succ k ih =>
    intro b L σ hb
    match b with
    | 0 =>
      refine By_eq (by rw [y_X1_moveRow__z26]) ?_
      exact ih _ _ _ hb
    | 1 =>
      refine By_eq (by rw [y_X1_moveRow__z26]) ?_
      exact By_ite (ih _ _ _ hb) (By_ite (By_ite (ih _ _ _ hb) (By_ite (By_oc (kb_y_X1_placeOf _ _ _ _ hb) (fun _ h369 => By_ite (ih _ _ _ (BY_A (by decide) h369)) (By_no))) (By_no))) (By_no))
    | 2 =>
      refine By_eq (by rw [y_X1_moveRow__z26]) ?_
      exact By_so hb
    | 3 =>
      refine By_eq (by rw [y_X1_moveRow__z26]) ?_
      exact ih _ _ _ hb
    | b + 4 =>
      exact By_eq (by rw [y_X1_moveRow__z26]) By_no
theorem kb_y_X3_moveAll {P : Prop} : ∀ (k b : Nat) (L : LV) (σ : CS), BY P σ → By P (y_X3_moveAll k b L σ) := by
  intro k
  induction k with
  | zero => intro b L σ _; exact By_no
  | succ k ih =>
    intro b L σ hb
    match b with
    | 0 =>
      refine By_eq (by rw [y_X3_moveAll]) ?_
      exact By_oc (kb_y_X1_beginMarking _ _ _ _ hb) (fun _ h370 => By_oc (kb_y_X1_markRow__z20 _ _ _ _ h370) (fun _ h371 => By_oc (kb_y_X1_markRow__a23 _ _ _ _ h371) (fun _ h372 => By_oc (kb_y_X1_markRow__z21 _ _ _ _ h372) (fun _ h373 => By_oc (kb_y_X1_markRow__a67 _ _ _ _ h373) (fun _ h374 => By_oc (kb_y_X9_used _ _ _ _ h374) (fun _ h375 => By_oc (kb_y_X1_markRow__z26 _ _ _ _ h375) (fun _ h376 => By_oc (kb_y_X1_endMarking _ _ _ _ h376) (fun _ h377 => By_oc (kb_y_X1_moveRow__z20 _ _ _ _ h377) (fun _ h378 => By_oc (kb_y_X1_moveRow__a23 _ _ _ _ h378) (fun _ h379 => By_oc (kb_y_X1_moveRow__z21 _ _ _ _ h379) (fun _ h380 => By_oc (kb_y_X1_moveRow__a67 _ _ _ _ h380) (fun _ h381 => By_oc (kb_y_X9_used _ _ _ _ h381) (fun _ h382 => By_oc (kb_y_X1_moveRow__z26 _ _ _ _ h382) (fun _ h383 => By_oc (kb_y_X1_moveCells _ _ _ _ h383) (fun _ h384 => By_so h384)))))))))))))))
    | b + 1 =>
      exact By_eq (by rw [y_X3_moveAll]) By_no
theorem kb_y_X3_beginWork : ∀ (k b : Nat) (L : LV) (σ : CS), BY False σ → By False (y_X3_beginWork k b L σ) := by
  intro k
  induction k with
  | zero => intro b L σ _; exact By_no
  | succ k ih =>
    intro b L σ hb
    match b with
    | 0 =>
      refine By_eq (by rw [y_X3_beginWork]) ?_
      exact ih _ _ _ (BY_I (by decide) (BY_hz hb))
    | 1 =>
      refine By_eq (by rw [y_X3_beginWork]) ?_
      exact By_so (BY_I (by decide) (BY_I (by decide) hb))
    | b + 2 =>
      exact By_eq (by rw [y_X3_beginWork]) By_no
theorem kb_y_X3_fail {P : Prop} : ∀ (k b : Nat) (L : LV) (σ : CS), BY P σ → By P (y_X3_fail k b L σ) := by
  intro k
  induction k with
  | zero => intro b L σ _; exact By_no
  | succ k ih =>
    intro b L σ hb
    match b with
    | 0 =>
      refine By_eq (by rw [y_X3_fail]) ?_
      exact By_so (BY_hh hb)
    | b + 1 =>
      exact By_eq (by rw [y_X3_fail]) By_no
theorem kb_y_X3_spend {P : Prop} : ∀ (k b : Nat) (L : LV) (σ : CS), BY P σ → By P (y_X3_spend k b L σ) := by
  intro k
  induction k with
  | zero => intro b L σ _; exact By_no
  | succ k ih =>
    intro b L σ hb
    match b with
    | 0 =>
      refine By_eq (by rw [y_X3_spend]) ?_
      exact By_ite (ih _ _ _ (BY_I (by decide) hb)) (ih _ _ _ (BY_hh (BY_I (by decide) hb)))
    | 1 =>
      refine By_eq (by rw [y_X3_spend]) ?_
      exact By_so hb
    | b + 2 =>
      exact By_eq (by rw [y_X3_spend]) By_no
theorem kb_y_X3_pop {P : Prop} : ∀ (k b : Nat) (L : LV) (σ : CS), BY P σ → By P (y_X3_pop k b L σ) := by
  intro k
  induction k with
  | zero => intro b L σ _; exact By_no
  | succ k ih =>
    intro b L σ hb
    match b with
    | 0 =>
      refine By_eq (by rw [y_X3_pop]) ?_
      exact By_ite (By_so (BY_I (by decide) hb)) (By_no)
    | b + 1 =>
      exact By_eq (by rw [y_X3_pop]) By_no
theorem kb_y_X3_replace {P : Prop} : ∀ (k b : Nat) (L : LV) (σ : CS), BY P σ → By P (y_X3_replace k b L σ) := by
  intro k
  induction k with
  | zero => intro b L σ _; exact By_no
  | succ k ih =>
    intro b L σ hb
    match b with
    | 0 =>
      refine By_eq (by rw [y_X3_replace]) ?_
      exact By_oc (kb_y_X11_isError _ _ _ _ hb) (fun _ h385 => By_ite (ih _ _ _ h385) (By_oc (kb_y_X3_fail _ _ _ _ h385) (fun _ h386 => ih _ _ _ h386)))
    | 1 =>
      refine By_eq (by rw [y_X3_replace]) ?_
      exact By_ite (By_oc (kb_y_X1_size _ _ _ _ (BY_A (by decide) hb)) (fun _ h387 => By_oc (kb_y_X3_spend _ _ _ _ h387) (fun _ h388 => ih _ _ _ h388))) (By_no)
    | 2 =>
      refine By_eq (by rw [y_X3_replace]) ?_
      exact By_so hb
    | b + 3 =>
      exact By_eq (by rw [y_X3_replace]) By_no
theorem kb_y_X3_wantTruth {P : Prop} : ∀ (k b : Nat) (L : LV) (σ : CS), BY P σ → By P (y_X3_wantTruth k b L σ) := by
  intro k
  induction k with
  | zero => intro b L σ _; exact By_no
  | succ k ih =>
    intro b L σ hb
    match b with
    | 0 =>
      refine By_eq (by rw [y_X3_wantTruth]) ?_
      exact By_ite (ih _ _ _ hb) (By_ite (ih _ _ _ hb) (By_oc (kb_y_X3_fail _ _ _ _ hb) (fun _ h389 => By_so h389)))
    | 1 =>
      refine By_eq (by rw [y_X3_wantTruth]) ?_
      exact By_so hb
    | b + 2 =>
      exact By_eq (by rw [y_X3_wantTruth]) By_no
theorem kb_y_X3_shortcut {P : Prop} : ∀ (k b : Nat) (L : LV) (σ : CS), BY P σ → By P (y_X3_shortcut k b L σ) := by
  intro k
  induction k with
  | zero => intro b L σ _; exact By_no
  | succ k ih =>
    intro b L σ hb
    match b with
    | 0 =>
      refine By_eq (by rw [y_X3_shortcut]) ?_
      exact By_ite (By_oc (kb_y_X3_wantTruth _ _ _ _ hb) (fun _ h390 => By_ite (By_so h390) (ih _ _ _ h390))) (By_no)
    | 1 =>
      refine By_eq (by rw [y_X3_shortcut]) ?_
      exact By_ite (By_oc (kb_y_X3_spend _ _ _ _ (BY_I (by decide) hb)) (fun _ h391 => ih _ _ _ h391)) (ih _ _ _ hb)
    | 2 =>
      refine By_eq (by rw [y_X3_shortcut]) ?_
      exact ih _ _ _ (BY_I (by decide) hb)
    | 3 =>
      refine By_eq (by rw [y_X3_shortcut]) ?_
      exact By_so hb
    | b + 4 =>
      exact By_eq (by rw [y_X3_shortcut]) By_no
theorem kb_y_X3_beginStatement {P : Prop} : ∀ (k b : Nat) (L : LV) (σ : CS), BY P σ → By P (y_X3_beginStatement k b L σ) := by
  intro k
  induction k with
  | zero => intro b L σ _; exact By_no
  | succ k ih =>
    intro b L σ hb
    match b with
    | 0 =>
      refine By_eq (by rw [y_X3_beginStatement]) ?_
      exact By_ite (By_so (BY_h (BY_I (by decide) hb))) (ih _ _ _ hb)
    | 1 =>
      refine By_eq (by rw [y_X3_beginStatement]) ?_
      exact ih _ _ _ (BY_I (by decide) (BY_I (by decide) (BY_I (by decide) hb)))
    | 2 =>
      refine By_eq (by rw [y_X3_beginStatement]) ?_
      exact By_so (BY_I (by decide) hb)
    | b + 3 =>
      exact By_eq (by rw [y_X3_beginStatement]) By_no
theorem kb_y_X11_unraw {P : Prop} : ∀ (k b : Nat) (L : LV) (σ : CS), BY P σ → By P (y_X11_unraw k b L σ) := by
  intro k
  induction k with
  | zero => intro b L σ _; exact By_no
  | succ k ih =>
    intro b L σ hb
    match b with
    | 0 =>
      refine By_eq (by rw [y_X11_unraw]) ?_
      exact By_so hb
    | b + 1 =>
      exact By_eq (by rw [y_X11_unraw]) By_no
theorem kb_y_X3_endProc {P : Prop} : ∀ (k b : Nat) (L : LV) (σ : CS), BY P σ → By P (y_X3_endProc k b L σ) := by
  intro k
  induction k with
  | zero => intro b L σ _; exact By_no
  | succ k ih =>
    intro b L σ hb
    match b with
    | 0 =>
      refine By_eq (by rw [y_X3_endProc]) ?_
      exact By_oc (kb_y_X3_pop _ _ _ _ hb) (fun _ h392 => By_oB (fun _ => By_ite (By_oc (kb_y_X11_unraw _ _ _ _ h392) (fun _ h393 => By_ite (By_ite (By_oc (kb_y_X11_unraw _ _ _ _ h393) (fun _ h394 => ih _ _ _ (BY_I (by decide) h394))) (By_no)) (By_no))) (By_no)))
    | 1 =>
      refine By_eq (by rw [y_X3_endProc]) ?_
      exact By_ite (By_oc (kb_y_X11_unraw _ _ _ _ hb) (fun _ h395 => ih _ _ _ (BY_I (by decide) (BY_I (by decide) h395)))) (By_no)
    | 2 =>
      refine By_eq (by rw [y_X3_endProc]) ?_
      exact By_ite (By_oc (kb_y_X11_unraw _ _ _ _ (BY_I (by decide) hb)) (fun _ h396 => ih _ _ _ (BY_I (by decide) h396))) (By_no)
    | 3 =>
      refine By_eq (by rw [y_X3_endProc]) ?_
      exact By_ite (ih _ _ _ (BY_A (by decide) hb)) (By_no)
    | 4 =>
      refine By_eq (by rw [y_X3_endProc]) ?_
      exact By_ite (ih _ _ _ hb) (By_ite (By_ite (ih _ _ _ (BY_A (by decide) hb)) (By_no)) (By_no))
    | 5 =>
      refine By_eq (by rw [y_X3_endProc]) ?_
      exact By_so (BY_I (by decide) hb)
    | b + 6 =>
      exact By_eq (by rw [y_X3_endProc]) By_no
theorem kb_y_X3_countOut {P : Prop} : ∀ (k b : Nat) (L : LV) (σ : CS), BY P σ → By P (y_X3_countOut k b L σ) := by
  intro k
  induction k with
  | zero => intro b L σ _; exact By_no
  | succ k ih =>
    intro b L σ hb
    match b with
    | 0 =>
      refine By_eq (by rw [y_X3_countOut]) ?_
      exact By_so (BY_I (by decide) hb)
    | b + 1 =>
      exact By_eq (by rw [y_X3_countOut]) By_no
theorem kb_y_X3_nextDraw {P : Prop} : ∀ (k b : Nat) (L : LV) (σ : CS), BY P σ → By P (y_X3_nextDraw k b L σ) := by
  intro k
  induction k with
  | zero => intro b L σ _; exact By_no
  | succ k ih =>
    intro b L σ hb
    match b with
    | 0 =>
      refine By_eq (by rw [y_X3_nextDraw]) ?_
      exact By_ite (ih _ _ _ (BY_L hb)) (By_ite (By_no) (ih _ _ _ (BY_L hb)))
    | 1 =>
      refine By_eq (by rw [y_X3_nextDraw]) ?_
      exact ih _ _ _ hb
    | 2 =>
      refine By_eq (by rw [y_X3_nextDraw]) ?_
      exact By_so hb
    | b + 3 =>
      exact By_eq (by rw [y_X3_nextDraw]) By_no
theorem kb_y_X3_drawn {P : Prop} : ∀ (k b : Nat) (L : LV) (σ : CS), BY P σ → By P (y_X3_drawn k b L σ) := by
  intro k
  induction k with
  | zero => intro b L σ _; exact By_no
  | succ k ih =>
    intro b L σ hb
    match b with
    | 0 =>
      refine By_eq (by rw [y_X3_drawn]) ?_
      exact By_oc (kb_y_X1_kind _ _ _ _ hb) (fun _ h397 => By_ite (ih _ _ _ h397) (By_oc (kb_y_X1_length _ _ _ _ h397) (fun _ h398 => By_ite (ih _ _ _ h398) (ih _ _ _ h398))))
    | 1 =>
      refine By_eq (by rw [y_X3_drawn]) ?_
      exact By_ite (ih _ _ _ hb) (By_so hb)
    | 2 =>
      refine By_eq (by rw [y_X3_drawn]) ?_
      exact By_oc (kb_y_X3_nextDraw _ _ _ _ hb) (fun _ h399 => By_oc (kb_y_X1_taken _ _ _ _ h399) (fun _ h400 => ih _ _ _ h400))
    | 3 =>
      refine By_eq (by rw [y_X3_drawn]) ?_
      exact By_so hb
    | 4 =>
      refine By_eq (by rw [y_X3_drawn]) ?_
      exact By_ite (ih _ _ _ hb) (By_oc (kb_y_X10_number _ _ _ _ hb) (fun _ h401 => ih _ _ _ h401))
    | 5 =>
      refine By_eq (by rw [y_X3_drawn]) ?_
      exact By_oc (kb_y_X1_length _ _ _ _ hb) (fun _ h402 => By_ite (By_ite (ih _ _ _ h402) (By_no)) (ih _ _ _ h402))
    | 6 =>
      refine By_eq (by rw [y_X3_drawn]) ?_
      exact By_ite (ih _ _ _ hb) (By_oc (kb_y_X10_isBelow _ _ _ _ hb) (fun _ h403 => By_ite (ih _ _ _ h403) (ih _ _ _ h403)))
    | 7 =>
      refine By_eq (by rw [y_X3_drawn]) ?_
      exact ih _ _ _ hb
    | 8 =>
      refine By_eq (by rw [y_X3_drawn]) ?_
      exact By_so hb
    | 9 =>
      refine By_eq (by rw [y_X3_drawn]) ?_
      exact By_oc (kb_y_X3_nextDraw _ _ _ _ hb) (fun _ h404 => By_oc (kb_y_X10_of _ _ _ _ h404) (fun _ h405 => By_so h405))
    | b + 10 =>
      exact By_eq (by rw [y_X3_drawn]) By_no
theorem kb_y_X11_raw {P : Prop} : ∀ (k b : Nat) (L : LV) (σ : CS), BY P σ → By P (y_X11_raw k b L σ) := by
  intro k
  induction k with
  | zero => intro b L σ _; exact By_no
  | succ k ih =>
    intro b L σ hb
    match b with
    | 0 =>
      refine By_eq (by rw [y_X11_raw]) ?_
      exact By_so hb
    | b + 1 =>
      exact By_eq (by rw [y_X11_raw]) By_no
theorem kb_y_X3_assign {P : Prop} : ∀ (k b : Nat) (L : LV) (σ : CS), BY P σ → By P (y_X3_assign k b L σ) := by
  intro k
  induction k with
  | zero => intro b L σ _; exact By_no
  | succ k ih =>
    intro b L σ hb
    match b with
    | 0 =>
      refine By_eq (by rw [y_X3_assign]) ?_
      exact By_oc (kb_y_X1_size _ _ _ _ hb) (fun _ h406 => By_ite (By_oc (kb_y_X1_size _ _ _ _ h406) (fun _ h407 => By_ite (ih _ _ _ h407) (By_ite (ih _ _ _ h407) (By_oc (kb_y_X3_fail _ _ _ _ h407) (fun _ h408 => By_so h408))))) (By_no))
    | 1 =>
      refine By_eq (by rw [y_X3_assign]) ?_
      exact By_ite (ih _ _ _ (BY_I (by decide) hb)) (ih _ _ _ (BY_I (by decide) hb))
    | 2 =>
      refine By_eq (by rw [y_X3_assign]) ?_
      exact ih _ _ _ hb
    | 3 =>
      refine By_eq (by rw [y_X3_assign]) ?_
      exact By_ite (By_so (BY_A (by decide) (BY_I (by decide) hb))) (By_no)
    | b + 4 =>
      exact By_eq (by rw [y_X3_assign]) By_no
theorem kb_y_X3_letGo__z20 {P : Prop} : ∀ (k b : Nat) (L : LV) (σ : CS), BY P σ → By P (y_X3_letGo__z20 k b L σ) := by
  intro k
  induction k with
  | zero => intro b L σ _; exact By_no
  | succ k ih =>
    intro b L σ hb
    match b with
    | 0 =>
      refine By_eq (by rw [y_X3_letGo__z20]) ?_
      exact By_ite (ih _ _ _ hb) (By_ite (By_ite (ih _ _ _ hb) (By_ite (By_oc (kb_y_X1_size _ _ _ _ hb) (fun _ h409 => ih _ _ _ (BY_I (by decide) (BY_I (by decide) h409)))) (By_no))) (By_no))
    | 1 =>
      refine By_eq (by rw [y_X3_letGo__z20]) ?_
      exact By_ite (By_ite (By_so (BY_A (by decide) (BY_A (by decide) hb))) (By_no)) (By_no)
    | b + 2 =>
      exact By_eq (by rw [y_X3_letGo__z20]) By_no
theorem kb_y_X3_clearFor {P : Prop} : ∀ (k b : Nat) (L : LV) (σ : CS), BY P σ → By P (y_X3_clearFor k b L σ) := by
  intro k
  induction k with
  | zero => intro b L σ _; exact By_no
  | succ k ih =>
    intro b L σ hb
    match b with
    | 0 =>
      refine By_eq (by rw [y_X3_clearFor]) ?_
      exact By_oc (kb_y_X3_letGo__z20 _ _ _ _ hb) (fun _ h410 => ih _ _ _ h410)
    | 1 =>
      refine By_eq (by rw [y_X3_clearFor]) ?_
      exact By_ite (ih _ _ _ hb) (By_oc (kb_y_X3_assign _ _ _ _ hb) (fun _ h411 => ih _ _ _ h411))
    | 2 =>
      refine By_eq (by rw [y_X3_clearFor]) ?_
      exact By_so hb
    | b + 3 =>
      exact By_eq (by rw [y_X3_clearFor]) By_no
theorem kb_y_X5_noteFault {P : Prop} : ∀ (k b : Nat) (L : LV) (σ : CS), BY P σ → By P (y_X5_noteFault k b L σ) := by
  intro k
  induction k with
  | zero => intro b L σ _; exact By_no
  | succ k ih =>
    intro b L σ hb
    match b with
    | 0 =>
      refine By_eq (by rw [y_X5_noteFault]) ?_
      exact By_ite (ih _ _ _ (BY_I (by decide) (BY_I (by decide) hb))) (ih _ _ _ hb)
    | 1 =>
      refine By_eq (by rw [y_X5_noteFault]) ?_
      exact By_so hb
    | b + 2 =>
      exact By_eq (by rw [y_X5_noteFault]) By_no
theorem kb_y_X5_closeUnit {P : Prop} : ∀ (k b : Nat) (L : LV) (σ : CS), BY P σ → By P (y_X5_closeUnit k b L σ) := by
  intro k
  induction k with
  | zero => intro b L σ _; exact By_no
  | succ k ih =>
    intro b L σ hb
    match b with
    | 0 =>
      refine By_eq (by rw [y_X5_closeUnit]) ?_
      exact By_oB (fun _ => ih _ _ _ (BY_I (by decide) (BY_I (by decide) (BY_I (nF_P _ (by decide)) hb))))
    | 1 =>
      refine By_eq (by rw [y_X5_closeUnit]) ?_
      exact By_so hb
    | b + 2 =>
      exact By_eq (by rw [y_X5_closeUnit]) By_no
theorem kb_y_X5_beginsStatement {P : Prop} : ∀ (k b : Nat) (L : LV) (σ : CS), BY P σ → By P (y_X5_beginsStatement k b L σ) := by
  intro k
  induction k with
  | zero => intro b L σ _; exact By_no
  | succ k ih =>
    intro b L σ hb
    match b with
    | 0 =>
      refine By_eq (by rw [y_X5_beginsStatement]) ?_
      exact By_ite (ih _ _ _ hb) (By_ite (ih _ _ _ hb) (By_ite (ih _ _ _ hb) (By_ite (ih _ _ _ hb) (By_ite (ih _ _ _ hb) (By_ite (ih _ _ _ hb) (By_ite (ih _ _ _ hb) (By_ite (ih _ _ _ hb) (By_ite (ih _ _ _ hb) (By_ite (ih _ _ _ hb) (By_ite (ih _ _ _ hb) (By_ite (ih _ _ _ hb) (By_ite (ih _ _ _ hb) (By_ite (ih _ _ _ hb) (By_ite (ih _ _ _ hb) (By_ite (ih _ _ _ hb) (By_ite (ih _ _ _ hb) (By_ite (ih _ _ _ hb) (By_ite (ih _ _ _ hb) (By_ite (ih _ _ _ hb) (By_ite (ih _ _ _ hb) (By_ite (ih _ _ _ hb) (By_ite (ih _ _ _ hb) (By_ite (ih _ _ _ hb) (By_ite (ih _ _ _ hb) (By_ite (ih _ _ _ hb) (By_ite (ih _ _ _ hb) (By_ite (ih _ _ _ hb) (By_ite (ih _ _ _ hb) (By_ite (ih _ _ _ hb) (By_ite (ih _ _ _ hb) (By_ite (ih _ _ _ hb) (By_ite (ih _ _ _ hb) (By_ite (ih _ _ _ hb) (By_ite (ih _ _ _ hb) (By_ite (ih _ _ _ hb) (By_ite (ih _ _ _ hb) (By_ite (ih _ _ _ hb) (By_ite (ih _ _ _ hb) (By_ite (ih _ _ _ hb) (By_ite (ih _ _ _ hb) (By_ite (ih _ _ _ hb) (By_ite (ih _ _ _ hb) (By_ite (ih _ _ _ hb) (By_ite (ih _ _ _ hb) (By_ite (ih _ _ _ hb) (By_ite (ih _ _ _ hb) (By_ite (ih _ _ _ hb) (By_ite (ih _ _ _ hb) (By_ite (ih _ _ _ hb) (By_ite (ih _ _ _ hb) (By_ite (ih _ _ _ hb) (By_ite (ih _ _ _ hb) (By_ite (ih _ _ _ hb) (By_ite (ih _ _ _ hb) (ih _ _ _ hb)))))))))))))))))))))))))))))))))))))))))))))))))))))))
    | 1 =>
      refine By_eq (by rw [y_X5_beginsStatement]) ?_
      exact By_so hb
    | 2 =>
      refine By_eq (by rw [y_X5_beginsStatement]) ?_
      exact By_so hb
    | b + 3 =>
      exact By_eq (by rw [y_X5_beginsStatement]) By_no
theorem kb_y_X7_aim__P {P : Prop} : ∀ (k b : Nat) (L : LV) (σ : CS), BY P σ → By P (y_X7_aim__P k b L σ) := by
  intro k
  induction k with
  | zero => intro b L σ _; exact By_no
  | succ k ih =>
    intro b L σ hb
    match b with
    | 0 =>
      refine By_eq (by rw [y_X7_aim__P]) ?_
      exact By_ite (By_ite (By_so (BY_A (nB_0 _) hb)) (By_no)) (By_no)
    | b + 1 =>
      exact By_eq (by rw [y_X7_aim__P]) By_no
theorem kb_y_X5_aimAll {P : Prop} : ∀ (k b : Nat) (L : LV) (σ : CS), BY P σ → By P (y_X5_aimAll k b L σ) := by
  intro k
  induction k with
  | zero => intro b L σ _; exact By_no
  | succ k ih =>
    intro b L σ hb
    match b with
    | 0 =>
      refine By_eq (by rw [y_X5_aimAll]) ?_
      exact ih _ _ _ hb
    | 1 =>
      refine By_eq (by rw [y_X5_aimAll]) ?_
      exact By_ite (ih _ _ _ hb) (By_ite (ih _ _ _ hb) (By_oB (fun _ => By_ite (By_oB (fun _ => By_oB (fun _ => By_oc (kb_y_X7_aim__P _ _ _ _ hb) (fun _ h412 => ih _ _ _ h412)))) (By_no))))
    | 2 =>
      refine By_eq (by rw [y_X5_aimAll]) ?_
      exact By_so hb
    | b + 3 =>
      exact By_eq (by rw [y_X5_aimAll]) By_no
theorem kb_y_X5_level {P : Prop} : ∀ (k b : Nat) (L : LV) (σ : CS), BY P σ → By P (y_X5_level k b L σ) := by
  intro k
  induction k with
  | zero => intro b L σ _; exact By_no
  | succ k ih =>
    intro b L σ hb
    match b with
    | 0 =>
      refine By_eq (by rw [y_X5_level]) ?_
      exact By_ite (ih _ _ _ hb) (By_ite (ih _ _ _ hb) (By_ite (ih _ _ _ hb) (By_ite (ih _ _ _ hb) (By_ite (ih _ _ _ hb) (By_ite (ih _ _ _ hb) (By_ite (ih _ _ _ hb) (By_ite (ih _ _ _ hb) (By_ite (ih _ _ _ hb) (By_ite (ih _ _ _ hb) (By_ite (ih _ _ _ hb) (By_ite (ih _ _ _ hb) (By_ite (ih _ _ _ hb) (By_ite (ih _ _ _ hb) (By_ite (ih _ _ _ hb) (By_ite (ih _ _ _ hb) (By_ite (ih _ _ _ hb) (By_ite (ih _ _ _ hb) (By_ite (ih _ _ _ hb) (By_ite (ih _ _ _ hb) (By_ite (ih _ _ _ hb) (By_ite (ih _ _ _ hb) (By_ite (ih _ _ _ hb) (By_ite (ih _ _ _ hb) (By_ite (ih _ _ _ hb) (By_ite (ih _ _ _ hb) (By_ite (ih _ _ _ hb) (By_ite (ih _ _ _ hb) (By_ite (ih _ _ _ hb) (By_ite (ih _ _ _ hb) (By_ite (ih _ _ _ hb) (By_ite (ih _ _ _ hb) (By_ite (ih _ _ _ hb) (By_ite (ih _ _ _ hb) (By_ite (ih _ _ _ hb) (By_ite (ih _ _ _ hb) (By_ite (ih _ _ _ hb) (By_ite (ih _ _ _ hb) (By_ite (ih _ _ _ hb) (By_ite (ih _ _ _ hb) (By_ite (ih _ _ _ hb) (By_ite (ih _ _ _ hb) (By_ite (ih _ _ _ hb) (By_ite (ih _ _ _ hb) (By_ite (ih _ _ _ hb) (By_ite (ih _ _ _ hb) (By_ite (ih _ _ _ hb) (By_ite (ih _ _ _ hb) (By_ite (ih _ _ _ hb) (By_ite (ih _ _ _ hb) (By_ite (ih _ _ _ hb) (By_ite (ih _ _ _ hb) (By_ite (ih _ _ _ hb) (By_ite (ih _ _ _ hb) (By_ite (ih _ _ _ hb) (By_ite (ih _ _ _ hb) (By_ite (ih _ _ _ hb) (By_ite (ih _ _ _ hb) (By_ite (ih _ _ _ hb) (By_ite (ih _ _ _ hb) (By_ite (ih _ _ _ hb) (By_ite (ih _ _ _ hb) (By_ite (ih _ _ _ hb) (ih _ _ _ hb)))))))))))))))))))))))))))))))))))))))))))))))))))))))))))))))
    | 1 =>
      refine By_eq (by rw [y_X5_level]) ?_
      exact By_so hb
    | 2 =>
      refine By_eq (by rw [y_X5_level]) ?_
      exact By_so hb
    | 3 =>
      refine By_eq (by rw [y_X5_level]) ?_
      exact By_so hb
    | 4 =>
      refine By_eq (by rw [y_X5_level]) ?_
      exact By_so hb
    | 5 =>
      refine By_eq (by rw [y_X5_level]) ?_
      exact By_so hb
    | 6 =>
      refine By_eq (by rw [y_X5_level]) ?_
      exact By_so hb
    | 7 =>
      refine By_eq (by rw [y_X5_level]) ?_
      exact By_so hb
    | b + 8 =>
      exact By_eq (by rw [y_X5_level]) By_no
theorem kb_y_X5_binaryOp {P : Prop} : ∀ (k b : Nat) (L : LV) (σ : CS), BY P σ → By P (y_X5_binaryOp k b L σ) := by
  intro k
  induction k with
  | zero => intro b L σ _; exact By_no
  | succ k ih =>
    intro b L σ hb
    match b with
    | 0 =>
      refine By_eq (by rw [y_X5_binaryOp]) ?_
      exact By_ite (ih _ _ _ hb) (By_ite (ih _ _ _ hb) (By_ite (ih _ _ _ hb) (By_ite (ih _ _ _ hb) (By_ite (ih _ _ _ hb) (By_ite (ih _ _ _ hb) (By_ite (ih _ _ _ hb) (By_ite (ih _ _ _ hb) (By_ite (ih _ _ _ hb) (ih _ _ _ hb)))))))))
    | 1 =>
      refine By_eq (by rw [y_X5_binaryOp]) ?_
      exact By_so hb
    | 2 =>
      refine By_eq (by rw [y_X5_binaryOp]) ?_
      exact By_so hb
    | 3 =>
      refine By_eq (by rw [y_X5_binaryOp]) ?_
      exact By_so hb
    | 4 =>
      refine By_eq (by rw [y_X5_binaryOp]) ?_
      exact By_so hb
    | 5 =>
      refine By_eq (by rw [y_X5_binaryOp]) ?_
      exact By_so hb
    | 6 =>
      refine By_eq (by rw [y_X5_binaryOp]) ?_
      exact By_so hb
    | 7 =>
      refine By_eq (by rw [y_X5_binaryOp]) ?_
      exact By_so hb
    | 8 =>
      refine By_eq (by rw [y_X5_binaryOp]) ?_
      exact By_so hb
    | 9 =>
      refine By_eq (by rw [y_X5_binaryOp]) ?_
      exact By_so hb
    | 10 =>
      refine By_eq (by rw [y_X5_binaryOp]) ?_
      exact By_so hb
    | b + 11 =>
      exact By_eq (by rw [y_X5_binaryOp]) By_no
theorem kb_y_X5_postponedLevel {P : Prop} : ∀ (k b : Nat) (L : LV) (σ : CS), BY P σ → By P (y_X5_postponedLevel k b L σ) := by
  intro k
  induction k with
  | zero => intro b L σ _; exact By_no
  | succ k ih =>
    intro b L σ hb
    match b with
    | 0 =>
      refine By_eq (by rw [y_X5_postponedLevel]) ?_
      exact By_ite (ih _ _ _ hb) (By_ite (ih _ _ _ hb) (By_no))
    | 1 =>
      refine By_eq (by rw [y_X5_postponedLevel]) ?_
      exact ih _ _ _ hb
    | 2 =>
      refine By_eq (by rw [y_X5_postponedLevel]) ?_
      exact By_so hb
    | b + 3 =>
      exact By_eq (by rw [y_X5_postponedLevel]) By_no
theorem kb_y_X5_wordOp {P : Prop} : ∀ (k b : Nat) (L : LV) (σ : CS), BY P σ → By P (y_X5_wordOp k b L σ) := by
  intro k
  induction k with
  | zero => intro b L σ _; exact By_no
  | succ k ih =>
    intro b L σ hb
    match b with
    | 0 =>
      refine By_eq (by rw [y_X5_wordOp]) ?_
      exact By_ite (ih _ _ _ hb) (By_ite (ih _ _ _ hb) (By_so hb))
    | 1 =>
      refine By_eq (by rw [y_X5_wordOp]) ?_
      exact By_ite (ih _ _ _ hb) (ih _ _ _ hb)
    | 2 =>
      refine By_eq (by rw [y_X5_wordOp]) ?_
      exact ih _ _ _ hb
    | 3 =>
      refine By_eq (by rw [y_X5_wordOp]) ?_
      exact By_so hb
    | b + 4 =>
      exact By_eq (by rw [y_X5_wordOp]) By_no
theorem kb_y_X6_put {P : Prop} : ∀ (k b : Nat) (L : LV) (σ : CS), BY P σ → By P (y_X6_put k b L σ) := by
  intro k
  induction k with
  | zero => intro b L σ _; exact By_no
  | succ k ih =>
    intro b L σ hb
    match b with
    | 0 =>
      refine By_eq (by rw [y_X6_put]) ?_
      exact By_ite (ih _ _ _ hb) (By_ite (ih _ _ _ (BY_I (by decide) (BY_13 hb))) (By_no))
    | 1 =>
      refine By_eq (by rw [y_X6_put]) ?_
      exact By_so hb
    | b + 2 =>
      exact By_eq (by rw [y_X6_put]) By_no
theorem kb_y_X1_copyBytes__a13 {P : Prop} : ∀ (k b : Nat) (L : LV) (σ : CS), BY P σ → By P (y_X1_copyBytes__a13 k b L σ) := by
  intro k
  induction k with
  | zero => intro b L σ _; exact By_no
  | succ k ih =>
    intro b L σ hb
    match b with
    | 0 =>
      refine By_eq (by rw [y_X1_copyBytes__a13]) ?_
      exact ih _ _ _ hb
    | 1 =>
      refine By_eq (by rw [y_X1_copyBytes__a13]) ?_
      exact By_ite (ih _ _ _ hb) (By_ite (ih _ _ _ hb) (By_ite (ih _ _ _ hb) (ih _ _ _ hb)))
    | 2 =>
      refine By_eq (by rw [y_X1_copyBytes__a13]) ?_
      exact By_so hb
    | 3 =>
      refine By_eq (by rw [y_X1_copyBytes__a13]) ?_
      exact By_ite (ih _ _ _ hb) (By_no)
    | 4 =>
      refine By_eq (by rw [y_X1_copyBytes__a13]) ?_
      exact By_ite (ih _ _ _ (BY_13 hb)) (By_no)
    | b + 5 =>
      exact By_eq (by rw [y_X1_copyBytes__a13]) By_no
theorem kb_y_X6_writeBytes {P : Prop} : ∀ (k b : Nat) (L : LV) (σ : CS), BY P σ → By P (y_X6_writeBytes k b L σ) := by
  intro k
  induction k with
  | zero => intro b L σ _; exact By_no
  | succ k ih =>
    intro b L σ hb
    match b with
    | 0 =>
      refine By_eq (by rw [y_X6_writeBytes]) ?_
      exact By_oc (kb_y_X1_length _ _ _ _ hb) (fun _ h413 => By_oc (kb_y_X1_copyBytes__a13 _ _ _ _ h413) (fun _ h414 => By_so (BY_I (by decide) h414)))
    | b + 1 =>
      exact By_eq (by rw [y_X6_writeBytes]) By_no
theorem kb_y_X1_makeString__a13 {P : Prop} : ∀ (k b : Nat) (L : LV) (σ : CS), BY P σ → By P (y_X1_makeString__a13 k b L σ) := by
  intro k
  induction k with
  | zero => intro b L σ _; exact By_no
  | succ k ih =>
    intro b L σ hb
    match b with
    | 0 =>
      refine By_eq (by rw [y_X1_makeString__a13]) ?_
      exact By_ite (ih _ _ _ hb) (By_ite (ih _ _ _ hb) (ih _ _ _ hb))
    | 1 =>
      refine By_eq (by rw [y_X1_makeString__a13]) ?_
      exact By_ite (ih _ _ _ hb) (By_so hb)
    | 2 =>
      refine By_eq (by rw [y_X1_makeString__a13]) ?_
      exact By_ite (ih _ _ _ hb) (By_no)
    | 3 =>
      refine By_eq (by rw [y_X1_makeString__a13]) ?_
      exact By_so hb
    | 4 =>
      refine By_eq (by rw [y_X1_makeString__a13]) ?_
      exact By_ite (ih _ _ _ hb) (By_so hb)
    | 5 =>
      refine By_eq (by rw [y_X1_makeString__a13]) ?_
      exact By_oc (kb_y_X1_header _ _ _ _ (BY_I (by decide) hb)) (fun _ h415 => By_ite (ih _ _ _ (BY_A (by decide) h415)) (By_no))
    | 6 =>
      refine By_eq (by rw [y_X1_makeString__a13]) ?_
      exact ih _ _ _ hb
    | 7 =>
      refine By_eq (by rw [y_X1_makeString__a13]) ?_
      exact By_ite (ih _ _ _ hb) (By_ite (By_ite (ih _ _ _ hb) (By_ite (ih _ _ _ hb) (ih _ _ _ hb))) (By_no))
    | 8 =>
      refine By_eq (by rw [y_X1_makeString__a13]) ?_
      exact By_so hb
    | 9 =>
      refine By_eq (by rw [y_X1_makeString__a13]) ?_
      exact By_ite (ih _ _ _ (BY_A (by decide) hb)) (By_no)
    | 10 =>
      refine By_eq (by rw [y_X1_makeString__a13]) ?_
      exact ih _ _ _ hb
    | b + 11 =>
      exact By_eq (by rw [y_X1_makeString__a13]) By_no
theorem kb_y_X6_madeString {P : Prop} : ∀ (k b : Nat) (L : LV) (σ : CS), BY P σ → By P (y_X6_madeString k b L σ) := by
  intro k
  induction k with
  | zero => intro b L σ _; exact By_no
  | succ k ih =>
    intro b L σ hb
    match b with
    | 0 =>
      refine By_eq (by rw [y_X6_madeString]) ?_
      exact By_oc (kb_y_X1_makeString__a13 _ _ _ _ hb) (fun _ h416 => By_so h416)
    | b + 1 =>
      exact By_eq (by rw [y_X6_madeString]) By_no
theorem kb_y_X7_openUnit__P {P : Prop} : ∀ (k b : Nat) (L : LV) (σ : CS), BY P σ → By P (y_X7_openUnit__P k b L σ) := by
  intro k
  induction k with
  | zero => intro b L σ _; exact By_no
  | succ k ih =>
    intro b L σ hb
    match b with
    | 0 =>
      refine By_eq (by rw [y_X7_openUnit__P]) ?_
      exact By_ite (By_ite (By_ite (ih _ _ _ (BY_A (nB_15 _) (BY_A (nB_14 _) (BY_A (nB_13 _) hb)))) (By_no)) (By_no)) (By_no)
    | 1 =>
      refine By_eq (by rw [y_X7_openUnit__P]) ?_
      exact By_ite (By_ite (By_ite (ih _ _ _ (BY_A (nB_18 _) (BY_A (nB_17 _) (BY_A (nB_16 _) hb)))) (By_no)) (By_no)) (By_no)
    | 2 =>
      refine By_eq (by rw [y_X7_openUnit__P]) ?_
      exact By_so (BY_I (nF_P _ (by decide)) hb)
    | b + 3 =>
      exact By_eq (by rw [y_X7_openUnit__P]) By_no
theorem kb_y_X7_moveDown__P {P : Prop} : ∀ (k b : Nat) (L : LV) (σ : CS), BY P σ → By P (y_X7_moveDown__P k b L σ) := by
  intro k
  induction k with
  | zero => intro b L σ _; exact By_no
  | succ k ih =>
    intro b L σ hb
    match b with
    | 0 =>
      refine By_eq (by rw [y_X7_moveDown__P]) ?_
      exact By_ite (ih _ _ _ (BY_F (nB_0 _) (BY_I (nF_P _ (by decide)) (BY_I (nF_P _ (by decide)) hb)))) (By_no)
    | 1 =>
      refine By_eq (by rw [y_X7_moveDown__P]) ?_
      exact ih _ _ _ hb
    | 2 =>
      refine By_eq (by rw [y_X7_moveDown__P]) ?_
      exact By_ite (ih _ _ _ hb) (By_ite (By_ite (ih _ _ _ (BY_A (nB_13 _) hb)) (By_no)) (By_no))
    | 3 =>
      refine By_eq (by rw [y_X7_moveDown__P]) ?_
      exact By_so hb
    | b + 4 =>
      exact By_eq (by rw [y_X7_moveDown__P]) By_no
theorem kb_y_X7_mode__P {P : Prop} : ∀ (k b : Nat) (L : LV) (σ : CS), BY P σ → By P (y_X7_mode__P k b L σ) := by
  intro k
  induction k with
  | zero => intro b L σ _; exact By_no
  | succ k ih =>
    intro b L σ hb
    match b with
    | 0 =>
      refine By_eq (by rw [y_X7_mode__P]) ?_
      exact By_ite (By_so hb) (By_no)
    | b + 1 =>
      exact By_eq (by rw [y_X7_mode__P]) By_no
theorem kb_y_X7_found__P {P : Prop} : ∀ (k b : Nat) (L : LV) (σ : CS), BY P σ → By P (y_X7_found__P k b L σ) := by
  intro k
  induction k with
  | zero => intro b L σ _; exact By_no
  | succ k ih =>
    intro b L σ hb
    match b with
    | 0 =>
      refine By_eq (by rw [y_X7_found__P]) ?_
      exact ih _ _ _ hb
    | 1 =>
      refine By_eq (by rw [y_X7_found__P]) ?_
      exact By_ite (ih _ _ _ hb) (By_ite (By_ite (By_ite (By_ite (By_ite (By_ite (By_so hb) (ih _ _ _ hb)) (By_no)) (ih _ _ _ hb)) (By_no)) (ih _ _ _ hb)) (By_no))
    | 2 =>
      refine By_eq (by rw [y_X7_found__P]) ?_
      exact By_so hb
    | 3 =>
      refine By_eq (by rw [y_X7_found__P]) ?_
      exact ih _ _ _ hb
    | b + 4 =>
      exact By_eq (by rw [y_X7_found__P]) By_no
theorem kb_y_X7_isToldFrom__P {P : Prop} : ∀ (k b : Nat) (L : LV) (σ : CS), BY P σ → By P (y_X7_isToldFrom__P k b L σ) := by
  intro k
  induction k with
  | zero => intro b L σ _; exact By_no
  | succ k ih =>
    intro b L σ hb
    match b with
    | 0 =>
      refine By_eq (by rw [y_X7_isToldFrom__P]) ?_
      exact ih _ _ _ hb
    | 1 =>
      refine By_eq (by rw [y_X7_isToldFrom__P]) ?_
      exact By_ite (ih _ _ _ hb) (By_ite (By_ite (By_ite (By_ite (By_so hb) (ih _ _ _ hb)) (By_no)) (ih _ _ _ hb)) (By_no))
    | 2 =>
      refine By_eq (by rw [y_X7_isToldFrom__P]) ?_
      exact By_so hb
    | 3 =>
      refine By_eq (by rw [y_X7_isToldFrom__P]) ?_
      exact ih _ _ _ hb
    | b + 4 =>
      exact By_eq (by rw [y_X7_isToldFrom__P]) By_no
theorem kb_y_X7_tell__P {P : Prop} : ∀ (k b : Nat) (L : LV) (σ : CS), BY P σ → By P (y_X7_tell__P k b L σ) := by
  intro k
  induction k with
  | zero => intro b L σ _; exact By_no
  | succ k ih =>
    intro b L σ hb
    match b with
    | 0 =>
      refine By_eq (by rw [y_X7_tell__P]) ?_
      exact By_ite (ih _ _ _ hb) (By_ite (By_ite (By_ite (ih _ _ _ (BY_A (nB_7 _) (BY_J (BY_J hb)))) (By_no)) (By_no)) (By_no))
    | 1 =>
      refine By_eq (by rw [y_X7_tell__P]) ?_
      exact By_so hb
    | 2 =>
      refine By_eq (by rw [y_X7_tell__P]) ?_
      exact By_ite (By_ite (By_ite (ih _ _ _ (BY_A (nB_10 _) (BY_A (nB_9 _) (BY_A (nB_8 _) hb)))) (By_no)) (By_no)) (By_no)
    | 3 =>
      refine By_eq (by rw [y_X7_tell__P]) ?_
      exact ih _ _ _ (BY_I (nF_P _ (by decide)) hb)
    | b + 4 =>
      exact By_eq (by rw [y_X7_tell__P]) By_no
theorem kb_y_X7_newSlots__P {P : Prop} : ∀ (k b : Nat) (L : LV) (σ : CS), BY P σ → By P (y_X7_newSlots__P k b L σ) := by
  intro k
  induction k with
  | zero => intro b L σ _; exact By_no
  | succ k ih =>
    intro b L σ hb
    match b with
    | 0 =>
      refine By_eq (by rw [y_X7_newSlots__P]) ?_
      exact By_ite (By_ite (By_ite (By_so (BY_A (nB_18 _) hb)) (By_no)) (By_no)) (By_no)
    | b + 1 =>
      exact By_eq (by rw [y_X7_newSlots__P]) By_no
theorem kb_y_X7_newPassing__P {P : Prop} : ∀ (k b : Nat) (L : LV) (σ : CS), BY P σ → By P (y_X7_newPassing__P k b L σ) := by
  intro k
  induction k with
  | zero => intro b L σ _; exact By_no
  | succ k ih =>
    intro b L σ hb
    match b with
    | 0 =>
      refine By_eq (by rw [y_X7_newPassing__P]) ?_
      exact By_so (BY_I (nF_P _ (by decide)) hb)
    | b + 1 =>
      exact By_eq (by rw [y_X7_newPassing__P]) By_no
theorem kb_y_X9_drop {P : Prop} : ∀ (k b : Nat) (L : LV) (σ : CS), BY P σ → By P (y_X9_drop k b L σ) := by
  intro k
  induction k with
  | zero => intro b L σ _; exact By_no
  | succ k ih =>
    intro b L σ hb
    match b with
    | 0 =>
      refine By_eq (by rw [y_X9_drop]) ?_
      exact ih _ _ _ (BY_I (by decide) (BY_I (by decide) (BY_I (by decide) hb)))
    | 1 =>
      refine By_eq (by rw [y_X9_drop]) ?_
      exact By_so hb
    | b + 2 =>
      exact By_eq (by rw [y_X9_drop]) By_no
theorem kb_y_X9_empty {P : Prop} : ∀ (k b : Nat) (L : LV) (σ : CS), BY P σ → By P (y_X9_empty k b L σ) := by
  intro k
  induction k with
  | zero => intro b L σ _; exact By_no
  | succ k ih =>
    intro b L σ hb
    match b with
    | 0 =>
      refine By_eq (by rw [y_X9_empty]) ?_
      exact By_oc (kb_y_X9_drop _ _ _ _ hb) (fun _ h417 => ih _ _ _ (BY_I (by decide) (BY_I (by decide) (BY_I (by decide) h417))))
    | 1 =>
      refine By_eq (by rw [y_X9_empty]) ?_
      exact By_so hb
    | b + 2 =>
      exact By_eq (by rw [y_X9_empty]) By_no
theorem kb_y_X9_expect {P : Prop} : ∀ (k b : Nat) (L : LV) (σ : CS), BY P σ → By P (y_X9_expect k b L σ) := by
  intro k
  induction k with
  | zero => intro b L σ _; exact By_no
  | succ k ih =>
    intro b L σ hb
    match b with
    | 0 =>
      refine By_eq (by rw [y_X9_expect]) ?_
      exact By_ite (ih _ _ _ hb) (ih _ _ _ hb)
    | 1 =>
      refine By_eq (by rw [y_X9_expect]) ?_
      exact ih _ _ _ hb
    | 2 =>
      refine By_eq (by rw [y_X9_expect]) ?_
      exact By_so (BY_I (by decide) hb)
    | b + 3 =>
      exact By_eq (by rw [y_X9_expect]) By_no
theorem kb_y_X9_newest {P : Prop} : ∀ (k b : Nat) (L : LV) (σ : CS), BY P σ → By P (y_X9_newest k b L σ) := by
  intro k
  induction k with
  | zero => intro b L σ _; exact By_no
  | succ k ih =>
    intro b L σ hb
    match b with
    | 0 =>
      refine By_eq (by rw [y_X9_newest]) ?_
      exact By_ite (ih _ _ _ hb) (By_ite (By_ite (By_ite (ih _ _ _ hb) (ih _ _ _ hb)) (By_no)) (By_no))
    | 1 =>
      refine By_eq (by rw [y_X9_newest]) ?_
      exact ih _ _ _ hb
    | 2 =>
      refine By_eq (by rw [y_X9_newest]) ?_
      exact ih _ _ _ hb
    | 3 =>
      refine By_eq (by rw [y_X9_newest]) ?_
      exact By_ite (ih _ _ _ hb) (By_ite (By_ite (By_ite (ih _ _ _ hb) (By_ite (ih _ _ _ hb) (By_ite (By_ite (By_ite (By_ite (By_ite (ih _ _ _ hb) (ih _ _ _ hb)) (By_no)) (By_no)) (By_no)) (By_no)))) (By_no)) (By_no))
    | 4 =>
      refine By_eq (by rw [y_X9_newest]) ?_
      exact By_so hb
    | 5 =>
      refine By_eq (by rw [y_X9_newest]) ?_
      exact ih _ _ _ hb
    | 6 =>
      refine By_eq (by rw [y_X9_newest]) ?_
      exact ih _ _ _ hb
    | b + 7 =>
      exact By_eq (by rw [y_X9_newest]) By_no
theorem kb_y_X10_load__a7 {P : Prop} : ∀ (k b : Nat) (L : LV) (σ : CS), BY P σ → By P (y_X10_load__a7 k b L σ) := by
  intro k
  induction k with
  | zero => intro b L σ _; exact By_no
  | succ k ih =>
    intro b L σ hb
    match b with
    | 0 =>
      refine By_eq (by rw [y_X10_load__a7]) ?_
      exact By_ite (ih _ _ _ hb) (By_ite (ih _ _ _ hb) (ih _ _ _ hb))
    | 1 =>
      refine By_eq (by rw [y_X10_load__a7]) ?_
      exact By_ite (By_ite (By_so (BY_F (by decide) hb)) (By_no)) (By_no)
    | 2 =>
      refine By_eq (by rw [y_X10_load__a7]) ?_
      exact ih _ _ _ hb
    | 3 =>
      refine By_eq (by rw [y_X10_load__a7]) ?_
      exact By_ite (By_ite (ih _ _ _ (BY_A (by decide) hb)) (ih _ _ _ (BY_A (by decide) hb))) (By_no)
    | 4 =>
      refine By_eq (by rw [y_X10_load__a7]) ?_
      exact ih _ _ _ hb
    | 5 =>
      refine By_eq (by rw [y_X10_load__a7]) ?_
      exact By_so hb
    | b + 6 =>
      exact By_eq (by rw [y_X10_load__a7]) By_no
theorem kb_y_X10_negated {P : Prop} : ∀ (k b : Nat) (L : LV) (σ : CS), BY P σ → By P (y_X10_negated k b L σ) := by
  intro k
  induction k with
  | zero => intro b L σ _; exact By_no
  | succ k ih =>
    intro b L σ hb
    match b with
    | 0 =>
      refine By_eq (by rw [y_X10_negated]) ?_
      exact By_oc (kb_y_X10_load__a7 _ _ _ _ hb) (fun _ h418 => By_oc (kb_y_X10_isBelow _ _ _ _ h418) (fun _ h419 => By_ite (ih _ _ _ h419) (ih _ _ _ h419)))
    | 1 =>
      refine By_eq (by rw [y_X10_negated]) ?_
      exact ih _ _ _ hb
    | 2 =>
      refine By_eq (by rw [y_X10_negated]) ?_
      exact By_oc (kb_y_X10_made _ _ _ _ hb) (fun _ h420 => By_so h420)
    | b + 3 =>
      exact By_eq (by rw [y_X10_negated]) By_no
theorem kb_y_X10_absolute {P : Prop} : ∀ (k b : Nat) (L : LV) (σ : CS), BY P σ → By P (y_X10_absolute k b L σ) := by
  intro k
  induction k with
  | zero => intro b L σ _; exact By_no
  | succ k ih =>
    intro b L σ hb
    match b with
    | 0 =>
      refine By_eq (by rw [y_X10_absolute]) ?_
      exact By_oc (kb_y_X10_isBelow _ _ _ _ hb) (fun _ h421 => By_ite (ih _ _ _ h421) (By_oc (kb_y_X10_negated _ _ _ _ h421) (fun _ h422 => ih _ _ _ h422)))
    | 1 =>
      refine By_eq (by rw [y_X10_absolute]) ?_
      exact ih _ _ _ hb
    | 2 =>
      refine By_eq (by rw [y_X10_absolute]) ?_
      exact By_so hb
    | b + 3 =>
      exact By_eq (by rw [y_X10_absolute]) By_no
theorem kb_y_X10_resultLimb {P : Prop} : ∀ (k b : Nat) (L : LV) (σ : CS), BY P σ → By P (y_X10_resultLimb k b L σ) := by
  intro k
  induction k with
  | zero => intro b L σ _; exact By_no
  | succ k ih =>
    intro b L σ hb
    match b with
    | 0 =>
      refine By_eq (by rw [y_X10_resultLimb]) ?_
      exact By_ite (ih _ _ _ hb) (By_ite (ih _ _ _ hb) (By_ite (ih _ _ _ hb) (By_no)))
    | 1 =>
      refine By_eq (by rw [y_X10_resultLimb]) ?_
      exact ih _ _ _ hb
    | 2 =>
      refine By_eq (by rw [y_X10_resultLimb]) ?_
      exact By_so hb
    | b + 3 =>
      exact By_eq (by rw [y_X10_resultLimb]) By_no
theorem kb_y_X10_takeBillion {P : Prop} : ∀ (k b : Nat) (L : LV) (σ : CS), BY P σ → By P (y_X10_takeBillion k b L σ) := by
  intro k
  induction k with
  | zero => intro b L σ _; exact By_no
  | succ k ih =>
    intro b L σ hb
    match b with
    | 0 =>
      refine By_eq (by rw [y_X10_takeBillion]) ?_
      exact ih _ _ _ hb
    | 1 =>
      refine By_eq (by rw [y_X10_takeBillion]) ?_
      exact By_ite (ih _ _ _ hb) (By_ite (By_ite (By_no) (By_ite (By_ite (By_no) (ih _ _ _ (BY_A (by decide) hb))) (By_no))) (By_no))
    | 2 =>
      refine By_eq (by rw [y_X10_takeBillion]) ?_
      exact By_so hb
    | b + 3 =>
      exact By_eq (by rw [y_X10_takeBillion]) By_no
theorem kb_y_X11_fault {P : Prop} : ∀ (k b : Nat) (L : LV) (σ : CS), BY P σ → By P (y_X11_fault k b L σ) := by
  intro k
  induction k with
  | zero => intro b L σ _; exact By_no
  | succ k ih =>
    intro b L σ hb
    match b with
    | 0 =>
      refine By_eq (by rw [y_X11_fault]) ?_
      exact By_so hb
    | b + 1 =>
      exact By_eq (by rw [y_X11_fault]) By_no
theorem kb_y_X11_renew {P : Prop} : ∀ (k b : Nat) (L : LV) (σ : CS), BY P σ → By P (y_X11_renew k b L σ) := by
  intro k
  induction k with
  | zero => intro b L σ _; exact By_no
  | succ k ih =>
    intro b L σ hb
    match b with
    | 0 =>
      refine By_eq (by rw [y_X11_renew]) ?_
      exact By_ite (By_ite (By_oc (kb_y_X1_same _ _ _ _ hb) (fun _ h423 => By_ite (ih _ _ _ h423) (ih _ _ _ h423))) (By_no)) (By_no)
    | 1 =>
      refine By_eq (by rw [y_X11_renew]) ?_
      exact ih _ _ _ hb
    | 2 =>
      refine By_eq (by rw [y_X11_renew]) ?_
      exact By_oc (kb_y_X1_kind _ _ _ _ hb) (fun _ h424 => By_ite (By_oc (kb_y_X1_kind _ _ _ _ h424) (fun _ h425 => By_ite (ih _ _ _ h425) (ih _ _ _ h425))) (ih _ _ _ h424))
    | 3 =>
      refine By_eq (by rw [y_X11_renew]) ?_
      exact ih _ _ _ hb
    | 4 =>
      refine By_eq (by rw [y_X11_renew]) ?_
      exact By_ite (By_ite (By_ite (By_ite (ih _ _ _ (BY_A (by decide) (BY_A (by decide) (BY_A (by decide) hb)))) (By_no)) (By_no)) (ih _ _ _ (BY_A (by decide) hb))) (By_no)
    | 5 =>
      refine By_eq (by rw [y_X11_renew]) ?_
      exact By_ite (ih _ _ _ hb) (By_oc (kb_y_X0_binary _ _ _ _ hb) (fun _ h426 => By_ite (By_oc (kb_y_X0_binary _ _ _ _ (BY_A (by decide) h426)) (fun _ h427 => By_ite (ih _ _ _ (BY_A (by decide) h427)) (By_no))) (By_no)))
    | 6 =>
      refine By_eq (by rw [y_X11_renew]) ?_
      exact ih _ _ _ hb
    | 7 =>
      refine By_eq (by rw [y_X11_renew]) ?_
      exact By_ite (By_ite (ih _ _ _ (BY_A (by decide) (BY_A (by decide) hb))) (By_no)) (By_no)
    | 8 =>
      refine By_eq (by rw [y_X11_renew]) ?_
      exact By_ite (By_so hb) (By_no)
    | b + 9 =>
      exact By_eq (by rw [y_X11_renew]) By_no
theorem kb_y_X11_order {P : Prop} : ∀ (k b : Nat) (L : LV) (σ : CS), BY P σ → By P (y_X11_order k b L σ) := by
  intro k
  induction k with
  | zero => intro b L σ _; exact By_no
  | succ k ih =>
    intro b L σ hb
    match b with
    | 0 =>
      refine By_eq (by rw [y_X11_order]) ?_
      exact By_ite (ih _ _ _ hb) (ih _ _ _ hb)
    | 1 =>
      refine By_eq (by rw [y_X11_order]) ?_
      exact By_ite (By_ite (By_oc (kb_y_X1_compare _ _ _ _ hb) (fun _ h428 => ih _ _ _ h428)) (By_no)) (By_no)
    | 2 =>
      refine By_eq (by rw [y_X11_order]) ?_
      exact By_so hb
    | b + 3 =>
      exact By_eq (by rw [y_X11_order]) By_no
theorem kb_y_X10_writeChunk__a13 {P : Prop} : ∀ (k b : Nat) (L : LV) (σ : CS), BY P σ → By P (y_X10_writeChunk__a13 k b L σ) := by
  intro k
  induction k with
  | zero => intro b L σ _; exact By_no
  | succ k ih =>
    intro b L σ hb
    match b with
    | 0 =>
      refine By_eq (by rw [y_X10_writeChunk__a13]) ?_
      exact ih _ _ _ hb
    | 1 =>
      refine By_eq (by rw [y_X10_writeChunk__a13]) ?_
      exact By_ite (ih _ _ _ hb) (By_ite (ih _ _ _ hb) (By_ite (ih _ _ _ hb) (By_ite (By_no) (ih _ _ _ hb))))
    | 2 =>
      refine By_eq (by rw [y_X10_writeChunk__a13]) ?_
      exact ih _ _ _ hb
    | 3 =>
      refine By_eq (by rw [y_X10_writeChunk__a13]) ?_
      exact By_ite (ih _ _ _ hb) (By_ite (By_no) (By_ite (By_ite (By_no) (ih _ _ _ (BY_13 hb))) (By_no)))
    | 4 =>
      refine By_eq (by rw [y_X10_writeChunk__a13]) ?_
      exact By_so hb
    | b + 5 =>
      exact By_eq (by rw [y_X10_writeChunk__a13]) By_no
theorem kb_y_X10_writeDigits__a13 {P : Prop} : ∀ (k b : Nat) (L : LV) (σ : CS), BY P σ → By P (y_X10_writeDigits__a13 k b L σ) := by
  intro k
  induction k with
  | zero => intro b L σ _; exact By_no
  | succ k ih =>
    intro b L σ hb
    match b with
    | 0 =>
      refine By_eq (by rw [y_X10_writeDigits__a13]) ?_
      exact By_ite (ih _ _ _ hb) (By_ite (ih _ _ _ hb) (ih _ _ _ hb))
    | 1 =>
      refine By_eq (by rw [y_X10_writeDigits__a13]) ?_
      exact By_so hb
    | 2 =>
      refine By_eq (by rw [y_X10_writeDigits__a13]) ?_
      exact By_oc (kb_y_X10_isBelow _ _ _ _ hb) (fun _ h429 => By_ite (ih _ _ _ h429) (By_ite (ih _ _ _ (BY_13 h429)) (By_no)))
    | 3 =>
      refine By_eq (by rw [y_X10_writeDigits__a13]) ?_
      exact By_oc (kb_y_X10_load__a5 _ _ _ _ hb) (fun _ h430 => ih _ _ _ h430)
    | 4 =>
      refine By_eq (by rw [y_X10_writeDigits__a13]) ?_
      exact By_ite (ih _ _ _ hb) (By_ite (ih _ _ _ hb) (By_ite (ih _ _ _ hb) (ih _ _ _ hb)))
    | 5 =>
      refine By_eq (by rw [y_X10_writeDigits__a13]) ?_
      exact ih _ _ _ hb
    | 6 =>
      refine By_eq (by rw [y_X10_writeDigits__a13]) ?_
      exact By_oc (kb_y_X10_takeBillion _ _ _ _ hb) (fun _ h431 => By_ite (By_ite (ih _ _ _ (BY_A (by decide) h431)) (By_ite (By_ite (ih _ _ _ (BY_A (by decide) h431)) (ih _ _ _ (BY_A (by decide) h431))) (By_no))) (By_no))
    | 7 =>
      refine By_eq (by rw [y_X10_writeDigits__a13]) ?_
      exact By_ite (ih _ _ _ hb) (By_ite (By_ite (ih _ _ _ hb) (ih _ _ _ hb)) (By_no))
    | 8 =>
      refine By_eq (by rw [y_X10_writeDigits__a13]) ?_
      exact ih _ _ _ hb
    | 9 =>
      refine By_eq (by rw [y_X10_writeDigits__a13]) ?_
      exact ih _ _ _ hb
    | 10 =>
      refine By_eq (by rw [y_X10_writeDigits__a13]) ?_
      exact By_so hb
    | 11 =>
      refine By_eq (by rw [y_X10_writeDigits__a13]) ?_
      exact ih _ _ _ hb
    | 12 =>
      refine By_eq (by rw [y_X10_writeDigits__a13]) ?_
      exact By_oc (kb_y_X10_writeChunk__a13 _ _ _ _ hb) (fun _ h432 => ih _ _ _ h432)
    | b + 13 =>
      exact By_eq (by rw [y_X10_writeDigits__a13]) By_no
theorem kb_f_X6_writeWord__ek14 {P : Prop} : ∀ (k b : Nat) (L : LV) (σ : CS), BY P σ → Bf P (f_X6_writeWord__ek14 k b L σ) := by
  intro k
  induction k with
  | zero => intro b L σ _; exact Bf_no
  | succ k ih =>
    intro b L σ hb
    match b with
    | 0 =>
      refine Bf_eq (by rw [f_X6_writeWord__ek14]) ?_
      exact ih _ _ _ hb
    | 1 =>
      refine Bf_eq (by rw [f_X6_writeWord__ek14]) ?_
      exact Bf_ite (ih _ _ _ hb) (Bf_ite (Bf_op (kb_y_X6_put _ _ _ _ hb) (fun _ h433 => ih _ _ _ h433)) (Bf_no))
    | 2 =>
      refine Bf_eq (by rw [f_X6_writeWord__ek14]) ?_
      exact Bf_so hb
    | b + 3 =>
      exact Bf_eq (by rw [f_X6_writeWord__ek14]) Bf_no
theorem kb_f_X6_writeWord__ek16 {P : Prop} : ∀ (k b : Nat) (L : LV) (σ : CS), BY P σ → Bf P (f_X6_writeWord__ek16 k b L σ) := by
  intro k
  induction k with
  | zero => intro b L σ _; exact Bf_no
  | succ k ih =>
    intro b L σ hb
    match b with
    | 0 =>
      refine Bf_eq (by rw [f_X6_writeWord__ek16]) ?_
      exact ih _ _ _ hb
    | 1 =>
      refine Bf_eq (by rw [f_X6_writeWord__ek16]) ?_
      exact Bf_ite (ih _ _ _ hb) (Bf_ite (Bf_op (kb_y_X6_put _ _ _ _ hb) (fun _ h434 => ih _ _ _ h434)) (Bf_no))
    | 2 =>
      refine Bf_eq (by rw [f_X6_writeWord__ek16]) ?_
      exact Bf_so hb
    | b + 3 =>
      exact Bf_eq (by rw [f_X6_writeWord__ek16]) Bf_no
theorem kb_f_X6_writeWord__ek18 {P : Prop} : ∀ (k b : Nat) (L : LV) (σ : CS), BY P σ → Bf P (f_X6_writeWord__ek18 k b L σ) := by
  intro k
  induction k with
  | zero => intro b L σ _; exact Bf_no
  | succ k ih =>
    intro b L σ hb
    match b with
    | 0 =>
      refine Bf_eq (by rw [f_X6_writeWord__ek18]) ?_
      exact ih _ _ _ hb
    | 1 =>
      refine Bf_eq (by rw [f_X6_writeWord__ek18]) ?_
      exact Bf_ite (ih _ _ _ hb) (Bf_ite (Bf_op (kb_y_X6_put _ _ _ _ hb) (fun _ h435 => ih _ _ _ h435)) (Bf_no))
    | 2 =>
      refine Bf_eq (by rw [f_X6_writeWord__ek18]) ?_
      exact Bf_so hb
    | b + 3 =>
      exact Bf_eq (by rw [f_X6_writeWord__ek18]) Bf_no
theorem kb_t_X6_write {P : Prop} {X : Nat → Nat → Nat → LV → CS → Option RS} (hX : ∀ e m b L (σ : CS), BY P σ → Bf P (X e m b L σ)) (K d b : Nat) (L : LV) (σ : CS) (hb : BY P σ) : Bf P (t_X6_write X K d b L σ) := by
  match b with
  | 0 => exact Bf_op (kb_y_X1_kind _ _ _ _ hb) (fun _ h436 => Bf_ite (hX _ _ _ _ _ h436) (Bf_ite (hX _ _ _ _ _ h436) (Bf_ite (hX _ _ _ _ _ h436) (Bf_ite (hX _ _ _ _ _ h436) (Bf_ite (hX _ _ _ _ _ h436) (Bf_ite (hX _ _ _ _ _ h436) (hX _ _ _ _ _ h436)))))))
  | 1 => exact Bf_ite (hX _ _ _ _ _ hb) (hX _ _ _ _ _ hb)
  | 2 => exact Bf_op (kb_y_X10_writeDigits__a13 _ _ _ _ hb) (fun _ h437 => hX _ _ _ _ _ (BY_I (by decide) h437))
  | 3 => exact Bf_op (kb_y_X6_put _ _ _ _ hb) (fun _ h438 => Bf_op (kb_y_X10_small _ _ _ _ h438) (fun _ h439 => Bf_op (kb_y_X10_writeDigits__a13 _ _ _ _ h439) (fun _ h440 => hX _ _ _ _ _ (BY_I (by decide) h440))))
  | 4 => exact Bf_op (kb_y_X6_put _ _ _ _ hb) (fun _ h441 => Bf_op (kb_y_X6_writeBytes _ _ _ _ h441) (fun _ h442 => Bf_op (kb_y_X6_put _ _ _ _ h442) (fun _ h443 => hX _ _ _ _ _ h443)))
  | 5 => exact Bf_of (fun _ => Bf_ox (hX _ _ _ _ _ hb) (fun _ h444 => hX _ _ _ _ _ h444))
  | 6 => exact Bf_of (fun _ => Bf_ox (hX _ _ _ _ _ hb) (fun _ h445 => hX _ _ _ _ _ h445))
  | 7 => exact Bf_ox (kb_f_X6_writeWord__ek14 _ _ _ _ hb) (fun _ h446 => hX _ _ _ _ _ h446)
  | 8 => exact hX _ _ _ _ _ hb
  | 9 => exact Bf_ox (kb_f_X6_writeWord__ek16 _ _ _ _ hb) (fun _ h447 => hX _ _ _ _ _ h447)
  | 10 => exact Bf_so hb
  | 11 => exact Bf_ox (kb_f_X6_writeWord__ek18 _ _ _ _ hb) (fun _ h448 => hX _ _ _ _ _ h448)
  | b + 12 => exact Bf_no
theorem kb_t_X6_writeRow {P : Prop} {X : Nat → Nat → Nat → LV → CS → Option RS} (hX : ∀ e m b L (σ : CS), BY P σ → Bf P (X e m b L σ)) (K d b : Nat) (L : LV) (σ : CS) (hb : BY P σ) : Bf P (t_X6_writeRow X K d b L σ) := by
  match b with
  | 0 => exact Bf_op (kb_y_X6_put _ _ _ _ hb) (fun _ h449 => Bf_op (kb_y_X1_length _ _ _ _ h449) (fun _ h450 => hX _ _ _ _ _ h450))
  | 1 => exact Bf_ite (hX _ _ _ _ _ hb) (Bf_ite (hX _ _ _ _ _ hb) (Bf_op (kb_y_X6_put _ _ _ _ hb) (fun _ h451 => Bf_op (kb_y_X6_put _ _ _ _ h451) (fun _ h452 => hX _ _ _ _ _ h452))))
  | 2 => exact Bf_op (kb_y_X6_put _ _ _ _ hb) (fun _ h453 => Bf_so h453)
  | 3 => exact Bf_op (kb_y_X1_member _ _ _ _ hb) (fun _ h454 => Bf_of (fun _ => Bf_ox (hX _ _ _ _ _ h454) (fun _ h455 => hX _ _ _ _ _ h455)))
  | b + 4 => exact Bf_no
theorem kb_f_F1 {P : Prop} : ∀ (k d m b : Nat) (L : LV) (σ : CS), BY P σ → Bf P (f_F1 k d m b L σ) := by
  intro k
  induction k with
  | zero => intro d m b L σ _; exact Bf_no
  | succ k ih =>
    intro d m b L σ hb
    match m with
    | 0 => exact kb_t_X6_write ih k d b L σ hb
    | 1 => exact kb_t_X6_writeRow ih k d b L σ hb
    | m + 2 => exact Bf_no
theorem kb_f_X6_write {P : Prop} (k b : Nat) (L : LV) (σ : CS) (hb : BY P σ) : Bf P (f_X6_write k b L σ) := kb_f_F1 k 80 0 b L σ hb
theorem kb_f_X6_writeRow {P : Prop} (k b : Nat) (L : LV) (σ : CS) (hb : BY P σ) : Bf P (f_X6_writeRow k b L σ) := kb_f_F1 k 80 1 b L σ hb
theorem kb_f_X6_print {P : Prop} : ∀ (k b : Nat) (L : LV) (σ : CS), BY P σ → Bf P (f_X6_print k b L σ) := by
  intro k
  induction k with
  | zero => intro b L σ _; exact Bf_no
  | succ k ih =>
    intro b L σ hb
    match b with
    | 0 =>
      refine Bf_eq (by rw [f_X6_print]) ?_
      exact Bf_ox (kb_f_X6_write _ _ _ _ (BY_I (by decide) hb)) (fun _ h456 => Bf_so h456)
    | b + 1 =>
      exact Bf_eq (by rw [f_X6_print]) Bf_no
theorem kb_f_X6_writeWord__ek2 {P : Prop} : ∀ (k b : Nat) (L : LV) (σ : CS), BY P σ → Bf P (f_X6_writeWord__ek2 k b L σ) := by
  intro k
  induction k with
  | zero => intro b L σ _; exact Bf_no
  | succ k ih =>
    intro b L σ hb
    match b with
    | 0 =>
      refine Bf_eq (by rw [f_X6_writeWord__ek2]) ?_
      exact ih _ _ _ hb
    | 1 =>
      refine Bf_eq (by rw [f_X6_writeWord__ek2]) ?_
      exact Bf_ite (ih _ _ _ hb) (Bf_ite (Bf_op (kb_y_X6_put _ _ _ _ hb) (fun _ h457 => ih _ _ _ h457)) (Bf_no))
    | 2 =>
      refine Bf_eq (by rw [f_X6_writeWord__ek2]) ?_
      exact Bf_so hb
    | b + 3 =>
      exact Bf_eq (by rw [f_X6_writeWord__ek2]) Bf_no
theorem kb_f_X6_word__ek2 {P : Prop} : ∀ (k b : Nat) (L : LV) (σ : CS), BY P σ → Bf P (f_X6_word__ek2 k b L σ) := by
  intro k
  induction k with
  | zero => intro b L σ _; exact Bf_no
  | succ k ih =>
    intro b L σ hb
    match b with
    | 0 =>
      refine Bf_eq (by rw [f_X6_word__ek2]) ?_
      exact Bf_ox (kb_f_X6_writeWord__ek2 _ _ _ _ (BY_I (by decide) hb)) (fun _ h458 => Bf_op (kb_y_X6_madeString _ _ _ _ h458) (fun _ h459 => Bf_so h459))
    | b + 1 =>
      exact Bf_eq (by rw [f_X6_word__ek2]) Bf_no
theorem kb_f_X6_writeWord__ek4 {P : Prop} : ∀ (k b : Nat) (L : LV) (σ : CS), BY P σ → Bf P (f_X6_writeWord__ek4 k b L σ) := by
  intro k
  induction k with
  | zero => intro b L σ _; exact Bf_no
  | succ k ih =>
    intro b L σ hb
    match b with
    | 0 =>
      refine Bf_eq (by rw [f_X6_writeWord__ek4]) ?_
      exact ih _ _ _ hb
    | 1 =>
      refine Bf_eq (by rw [f_X6_writeWord__ek4]) ?_
      exact Bf_ite (ih _ _ _ hb) (Bf_ite (Bf_op (kb_y_X6_put _ _ _ _ hb) (fun _ h460 => ih _ _ _ h460)) (Bf_no))
    | 2 =>
      refine Bf_eq (by rw [f_X6_writeWord__ek4]) ?_
      exact Bf_so hb
    | b + 3 =>
      exact Bf_eq (by rw [f_X6_writeWord__ek4]) Bf_no
theorem kb_f_X6_word__ek4 {P : Prop} : ∀ (k b : Nat) (L : LV) (σ : CS), BY P σ → Bf P (f_X6_word__ek4 k b L σ) := by
  intro k
  induction k with
  | zero => intro b L σ _; exact Bf_no
  | succ k ih =>
    intro b L σ hb
    match b with
    | 0 =>
      refine Bf_eq (by rw [f_X6_word__ek4]) ?_
      exact Bf_ox (kb_f_X6_writeWord__ek4 _ _ _ _ (BY_I (by decide) hb)) (fun _ h461 => Bf_op (kb_y_X6_madeString _ _ _ _ h461) (fun _ h462 => Bf_so h462))
    | b + 1 =>
      exact Bf_eq (by rw [f_X6_word__ek4]) Bf_no
theorem kb_f_X6_writeWord__ek6 {P : Prop} : ∀ (k b : Nat) (L : LV) (σ : CS), BY P σ → Bf P (f_X6_writeWord__ek6 k b L σ) := by
  intro k
  induction k with
  | zero => intro b L σ _; exact Bf_no
  | succ k ih =>
    intro b L σ hb
    match b with
    | 0 =>
      refine Bf_eq (by rw [f_X6_writeWord__ek6]) ?_
      exact ih _ _ _ hb
    | 1 =>
      refine Bf_eq (by rw [f_X6_writeWord__ek6]) ?_
      exact Bf_ite (ih _ _ _ hb) (Bf_ite (Bf_op (kb_y_X6_put _ _ _ _ hb) (fun _ h463 => ih _ _ _ h463)) (Bf_no))
    | 2 =>
      refine Bf_eq (by rw [f_X6_writeWord__ek6]) ?_
      exact Bf_so hb
    | b + 3 =>
      exact Bf_eq (by rw [f_X6_writeWord__ek6]) Bf_no
theorem kb_f_X6_word__ek6 {P : Prop} : ∀ (k b : Nat) (L : LV) (σ : CS), BY P σ → Bf P (f_X6_word__ek6 k b L σ) := by
  intro k
  induction k with
  | zero => intro b L σ _; exact Bf_no
  | succ k ih =>
    intro b L σ hb
    match b with
    | 0 =>
      refine Bf_eq (by rw [f_X6_word__ek6]) ?_
      exact Bf_ox (kb_f_X6_writeWord__ek6 _ _ _ _ (BY_I (by decide) hb)) (fun _ h464 => Bf_op (kb_y_X6_madeString _ _ _ _ h464) (fun _ h465 => Bf_so h465))
    | b + 1 =>
      exact Bf_eq (by rw [f_X6_word__ek6]) Bf_no
theorem kb_f_X6_writeWord__ek8 {P : Prop} : ∀ (k b : Nat) (L : LV) (σ : CS), BY P σ → Bf P (f_X6_writeWord__ek8 k b L σ) := by
  intro k
  induction k with
  | zero => intro b L σ _; exact Bf_no
  | succ k ih =>
    intro b L σ hb
    match b with
    | 0 =>
      refine Bf_eq (by rw [f_X6_writeWord__ek8]) ?_
      exact ih _ _ _ hb
    | 1 =>
      refine Bf_eq (by rw [f_X6_writeWord__ek8]) ?_
      exact Bf_ite (ih _ _ _ hb) (Bf_ite (Bf_op (kb_y_X6_put _ _ _ _ hb) (fun _ h466 => ih _ _ _ h466)) (Bf_no))
    | 2 =>
      refine Bf_eq (by rw [f_X6_writeWord__ek8]) ?_
      exact Bf_so hb
    | b + 3 =>
      exact Bf_eq (by rw [f_X6_writeWord__ek8]) Bf_no
theorem kb_f_X6_word__ek8 {P : Prop} : ∀ (k b : Nat) (L : LV) (σ : CS), BY P σ → Bf P (f_X6_word__ek8 k b L σ) := by
  intro k
  induction k with
  | zero => intro b L σ _; exact Bf_no
  | succ k ih =>
    intro b L σ hb
    match b with
    | 0 =>
      refine Bf_eq (by rw [f_X6_word__ek8]) ?_
      exact Bf_ox (kb_f_X6_writeWord__ek8 _ _ _ _ (BY_I (by decide) hb)) (fun _ h467 => Bf_op (kb_y_X6_madeString _ _ _ _ h467) (fun _ h468 => Bf_so h468))
    | b + 1 =>
      exact Bf_eq (by rw [f_X6_word__ek8]) Bf_no
theorem kb_f_X6_writeWord__ek10 {P : Prop} : ∀ (k b : Nat) (L : LV) (σ : CS), BY P σ → Bf P (f_X6_writeWord__ek10 k b L σ) := by
  intro k
  induction k with
  | zero => intro b L σ _; exact Bf_no
  | succ k ih =>
    intro b L σ hb
    match b with
    | 0 =>
      refine Bf_eq (by rw [f_X6_writeWord__ek10]) ?_
      exact ih _ _ _ hb
    | 1 =>
      refine Bf_eq (by rw [f_X6_writeWord__ek10]) ?_
      exact Bf_ite (ih _ _ _ hb) (Bf_ite (Bf_op (kb_y_X6_put _ _ _ _ hb) (fun _ h469 => ih _ _ _ h469)) (Bf_no))
    | 2 =>
      refine Bf_eq (by rw [f_X6_writeWord__ek10]) ?_
      exact Bf_so hb
    | b + 3 =>
      exact Bf_eq (by rw [f_X6_writeWord__ek10]) Bf_no
theorem kb_f_X6_word__ek10 {P : Prop} : ∀ (k b : Nat) (L : LV) (σ : CS), BY P σ → Bf P (f_X6_word__ek10 k b L σ) := by
  intro k
  induction k with
  | zero => intro b L σ _; exact Bf_no
  | succ k ih =>
    intro b L σ hb
    match b with
    | 0 =>
      refine Bf_eq (by rw [f_X6_word__ek10]) ?_
      exact Bf_ox (kb_f_X6_writeWord__ek10 _ _ _ _ (BY_I (by decide) hb)) (fun _ h470 => Bf_op (kb_y_X6_madeString _ _ _ _ h470) (fun _ h471 => Bf_so h471))
    | b + 1 =>
      exact Bf_eq (by rw [f_X6_word__ek10]) Bf_no
theorem kb_f_X6_writeWord__ek12 {P : Prop} : ∀ (k b : Nat) (L : LV) (σ : CS), BY P σ → Bf P (f_X6_writeWord__ek12 k b L σ) := by
  intro k
  induction k with
  | zero => intro b L σ _; exact Bf_no
  | succ k ih =>
    intro b L σ hb
    match b with
    | 0 =>
      refine Bf_eq (by rw [f_X6_writeWord__ek12]) ?_
      exact ih _ _ _ hb
    | 1 =>
      refine Bf_eq (by rw [f_X6_writeWord__ek12]) ?_
      exact Bf_ite (ih _ _ _ hb) (Bf_ite (Bf_op (kb_y_X6_put _ _ _ _ hb) (fun _ h472 => ih _ _ _ h472)) (Bf_no))
    | 2 =>
      refine Bf_eq (by rw [f_X6_writeWord__ek12]) ?_
      exact Bf_so hb
    | b + 3 =>
      exact Bf_eq (by rw [f_X6_writeWord__ek12]) Bf_no
theorem kb_f_X6_word__ek12 {P : Prop} : ∀ (k b : Nat) (L : LV) (σ : CS), BY P σ → Bf P (f_X6_word__ek12 k b L σ) := by
  intro k
  induction k with
  | zero => intro b L σ _; exact Bf_no
  | succ k ih =>
    intro b L σ hb
    match b with
    | 0 =>
      refine Bf_eq (by rw [f_X6_word__ek12]) ?_
      exact Bf_ox (kb_f_X6_writeWord__ek12 _ _ _ _ (BY_I (by decide) hb)) (fun _ h473 => Bf_op (kb_y_X6_madeString _ _ _ _ h473) (fun _ h474 => Bf_so h474))
    | b + 1 =>
      exact Bf_eq (by rw [f_X6_word__ek12]) Bf_no
theorem kb_f_X6_word__ek14 {P : Prop} : ∀ (k b : Nat) (L : LV) (σ : CS), BY P σ → Bf P (f_X6_word__ek14 k b L σ) := by
  intro k
  induction k with
  | zero => intro b L σ _; exact Bf_no
  | succ k ih =>
    intro b L σ hb
    match b with
    | 0 =>
      refine Bf_eq (by rw [f_X6_word__ek14]) ?_
      exact Bf_ox (kb_f_X6_writeWord__ek14 _ _ _ _ (BY_I (by decide) hb)) (fun _ h475 => Bf_op (kb_y_X6_madeString _ _ _ _ h475) (fun _ h476 => Bf_so h476))
    | b + 1 =>
      exact Bf_eq (by rw [f_X6_word__ek14]) Bf_no
theorem kb_f_X0_unary {P : Prop} : ∀ (k b : Nat) (L : LV) (σ : CS), BY P σ → Bf P (f_X0_unary k b L σ) := by
  intro k
  induction k with
  | zero => intro b L σ _; exact Bf_no
  | succ k ih =>
    intro b L σ hb
    match b with
    | 0 =>
      refine Bf_eq (by rw [f_X0_unary]) ?_
      exact Bf_op (kb_y_X1_kind _ _ _ _ hb) (fun _ h477 => Bf_ite (ih _ _ _ h477) (Bf_ite (ih _ _ _ h477) (Bf_ite (ih _ _ _ h477) (Bf_ite (ih _ _ _ h477) (Bf_ite (ih _ _ _ h477) (Bf_ite (ih _ _ _ h477) (Bf_ite (ih _ _ _ h477) (Bf_ite (ih _ _ _ h477) (Bf_ite (ih _ _ _ h477) (Bf_ite (ih _ _ _ h477) (Bf_ite (ih _ _ _ h477) (ih _ _ _ h477))))))))))))
    | 1 =>
      refine Bf_eq (by rw [f_X0_unary]) ?_
      exact Bf_ite (Bf_op (kb_y_X10_negated _ _ _ _ hb) (fun _ h478 => ih _ _ _ h478)) (ih _ _ _ hb)
    | 2 =>
      refine Bf_eq (by rw [f_X0_unary]) ?_
      exact Bf_ite (ih _ _ _ hb) (Bf_op (kb_y_X1_length _ _ _ _ hb) (fun _ h479 => Bf_op (kb_y_X10_small _ _ _ _ h479) (fun _ h480 => ih _ _ _ h480)))
    | 3 =>
      refine Bf_eq (by rw [f_X0_unary]) ?_
      exact Bf_ite (Bf_op (kb_y_X10_absolute _ _ _ _ hb) (fun _ h481 => ih _ _ _ h481)) (ih _ _ _ hb)
    | 4 =>
      refine Bf_eq (by rw [f_X0_unary]) ?_
      exact Bf_ite (Bf_op (kb_y_X1_member _ _ _ _ hb) (fun _ h482 => ih _ _ _ h482)) (ih _ _ _ hb)
    | 5 =>
      refine Bf_eq (by rw [f_X0_unary]) ?_
      exact Bf_op (kb_y_X1_isMap _ _ _ _ hb) (fun _ h483 => Bf_ite (ih _ _ _ h483) (Bf_op (kb_y_X0_domain _ _ _ _ h483) (fun _ h484 => ih _ _ _ h484)))
    | 6 =>
      refine Bf_eq (by rw [f_X0_unary]) ?_
      exact Bf_op (kb_y_X1_isMap _ _ _ _ hb) (fun _ h485 => Bf_ite (ih _ _ _ h485) (Bf_op (kb_y_X0_range _ _ _ _ h485) (fun _ h486 => ih _ _ _ h486)))
    | 7 =>
      refine Bf_eq (by rw [f_X0_unary]) ?_
      exact Bf_ite (Bf_op (kb_y_X0_subsets _ _ _ _ hb) (fun _ h487 => ih _ _ _ h487)) (ih _ _ _ hb)
    | 8 =>
      refine Bf_eq (by rw [f_X0_unary]) ?_
      exact Bf_ite (Bf_ox (kb_f_X6_word__ek2 _ _ _ _ hb) (fun _ h488 => Bf_so h488)) (Bf_ite (Bf_ox (kb_f_X6_word__ek4 _ _ _ _ hb) (fun _ h489 => Bf_so h489)) (Bf_ite (Bf_ox (kb_f_X6_word__ek6 _ _ _ _ hb) (fun _ h490 => Bf_so h490)) (Bf_ite (Bf_ox (kb_f_X6_word__ek8 _ _ _ _ hb) (fun _ h491 => Bf_so h491)) (Bf_ite (Bf_ox (kb_f_X6_word__ek10 _ _ _ _ hb) (fun _ h492 => Bf_so h492)) (Bf_ite (Bf_ox (kb_f_X6_word__ek12 _ _ _ _ hb) (fun _ h493 => Bf_so h493)) (Bf_ox (kb_f_X6_word__ek14 _ _ _ _ hb) (fun _ h494 => Bf_so h494)))))))
    | 9 =>
      refine Bf_eq (by rw [f_X0_unary]) ?_
      exact Bf_ox (kb_f_X6_print _ _ _ _ hb) (fun _ h495 => Bf_op (kb_y_X6_madeString _ _ _ _ h495) (fun _ h496 => Bf_so h496))
    | 10 =>
      refine Bf_eq (by rw [f_X0_unary]) ?_
      exact Bf_ite (Bf_op (kb_y_X0_charOf _ _ _ _ hb) (fun _ h497 => ih _ _ _ h497)) (ih _ _ _ hb)
    | 11 =>
      refine Bf_eq (by rw [f_X0_unary]) ?_
      exact Bf_ite (Bf_op (kb_y_X0_codeOf _ _ _ _ hb) (fun _ h498 => ih _ _ _ h498)) (ih _ _ _ hb)
    | 12 =>
      refine Bf_eq (by rw [f_X0_unary]) ?_
      exact Bf_ite (ih _ _ _ hb) (Bf_ite (ih _ _ _ hb) (ih _ _ _ hb))
    | 13 =>
      refine Bf_eq (by rw [f_X0_unary]) ?_
      exact ih _ _ _ hb
    | 14 =>
      refine Bf_eq (by rw [f_X0_unary]) ?_
      exact Bf_so hb
    | 15 =>
      refine Bf_eq (by rw [f_X0_unary]) ?_
      exact ih _ _ _ hb
    | 16 =>
      refine Bf_eq (by rw [f_X0_unary]) ?_
      exact Bf_so hb
    | 17 =>
      refine Bf_eq (by rw [f_X0_unary]) ?_
      exact ih _ _ _ hb
    | 18 =>
      refine Bf_eq (by rw [f_X0_unary]) ?_
      exact Bf_so hb
    | 19 =>
      refine Bf_eq (by rw [f_X0_unary]) ?_
      exact ih _ _ _ hb
    | 20 =>
      refine Bf_eq (by rw [f_X0_unary]) ?_
      exact Bf_so hb
    | 21 =>
      refine Bf_eq (by rw [f_X0_unary]) ?_
      exact ih _ _ _ hb
    | 22 =>
      refine Bf_eq (by rw [f_X0_unary]) ?_
      exact Bf_so hb
    | 23 =>
      refine Bf_eq (by rw [f_X0_unary]) ?_
      exact ih _ _ _ hb
    | 24 =>
      refine Bf_eq (by rw [f_X0_unary]) ?_
      exact Bf_so hb
    | 25 =>
      refine Bf_eq (by rw [f_X0_unary]) ?_
      exact ih _ _ _ hb
    | 26 =>
      refine Bf_eq (by rw [f_X0_unary]) ?_
      exact Bf_so hb
    | 27 =>
      refine Bf_eq (by rw [f_X0_unary]) ?_
      exact ih _ _ _ hb
    | 28 =>
      refine Bf_eq (by rw [f_X0_unary]) ?_
      exact Bf_so hb
    | 29 =>
      refine Bf_eq (by rw [f_X0_unary]) ?_
      exact ih _ _ _ hb
    | 30 =>
      refine Bf_eq (by rw [f_X0_unary]) ?_
      exact Bf_so hb
    | 31 =>
      refine Bf_eq (by rw [f_X0_unary]) ?_
      exact Bf_op (kb_y_X0_reversed _ _ _ _ hb) (fun _ h499 => ih _ _ _ h499)
    | 32 =>
      refine Bf_eq (by rw [f_X0_unary]) ?_
      exact ih _ _ _ hb
    | 33 =>
      refine Bf_eq (by rw [f_X0_unary]) ?_
      exact Bf_so hb
    | b + 34 =>
      exact Bf_eq (by rw [f_X0_unary]) Bf_no
theorem kb_f_X1_widen {P : Prop} : ∀ (k b : Nat) (L : LV) (σ : CS), BY P σ → Bf P (f_X1_widen k b L σ) := by
  intro k
  induction k with
  | zero => intro b L σ _; exact Bf_no
  | succ k ih =>
    intro b L σ hb
    match b with
    | 0 =>
      refine Bf_eq (by rw [f_X1_widen]) ?_
      exact Bf_ite (Bf_no) (Bf_ite (ih _ _ _ hb) (Bf_ite (Bf_ite (Bf_ad (ih _ _ _ (BY_Z ⟨fun z => absurd z (by decide), fun z => absurd z (by decide)⟩ hb))) (ih _ _ _ hb)) (Bf_no)))
    | 1 =>
      refine Bf_eq (by rw [f_X1_widen]) ?_
      exact Bf_so hb
    | 2 =>
      refine Bf_eq (by rw [f_X1_widen]) ?_
      exact Bf_ite (Bf_ite (Bf_ad (ih _ _ _ (BY_Z ⟨fun z => absurd z (by decide), fun z => absurd z (by decide)⟩ hb))) (ih _ _ _ hb)) (Bf_no)
    | 3 =>
      refine Bf_eq (by rw [f_X1_widen]) ?_
      exact Bf_ite (Bf_ite (Bf_ad (ih _ _ _ (BY_Z ⟨fun z => absurd z (by decide), fun z => absurd z (by decide)⟩ hb))) (ih _ _ _ hb)) (Bf_no)
    | b + 4 =>
      exact Bf_eq (by rw [f_X1_widen]) Bf_no
theorem kb_f_X11_wantRun {P : Prop} : ∀ (k b : Nat) (L : LV) (σ : CS), BY P σ → Bf P (f_X11_wantRun k b L σ) := by
  intro k
  induction k with
  | zero => intro b L σ _; exact Bf_no
  | succ k ih =>
    intro b L σ hb
    match b with
    | 0 =>
      refine Bf_eq (by rw [f_X11_wantRun]) ?_
      exact Bf_ite (Bf_so hb) (ih _ _ _ hb)
    | 1 =>
      refine Bf_eq (by rw [f_X11_wantRun]) ?_
      exact Bf_so hb
    | b + 2 =>
      exact Bf_eq (by rw [f_X11_wantRun]) Bf_no
theorem kb_rm {P : Prop} (k : Nat) (L : LV) {σ : CS} (hb : BY P σ) : Bf P (f_X3_isRoomFor k 3 L (uI σ 1813 6)) := by
  cases k with
  | zero => exact Bf_no
  | succ k =>
    refine Bf_eq (by rw [f_X3_isRoomFor]) ?_
    exact Bf_so (BY_hh hb)
theorem kb_f_X3_isRoomFor {P : Prop} : ∀ (k b : Nat) (L : LV) (σ : CS), BY P σ → Bf P (f_X3_isRoomFor k b L σ) := by
  intro k
  induction k with
  | zero => intro b L σ _; exact Bf_no
  | succ k ih =>
    intro b L σ hb
    match b with
    | 0 =>
      refine Bf_eq (by rw [f_X3_isRoomFor]) ?_
      exact Bf_ite (Bf_ite (Bf_ad (ih _ _ _ (BY_Z ⟨fun z => absurd z (by decide), fun z => absurd z (by decide)⟩ hb))) (ih _ _ _ hb)) (Bf_no)
    | 1 =>
      refine Bf_eq (by rw [f_X3_isRoomFor]) ?_
      exact Bf_ite (ih _ _ _ hb) (kb_rm k L hb)
    | 2 =>
      refine Bf_eq (by rw [f_X3_isRoomFor]) ?_
      exact Bf_so hb
    | 3 =>
      refine Bf_eq (by rw [f_X3_isRoomFor]) ?_
      exact Bf_so (BY_h hb)
    | b + 4 =>
      exact Bf_eq (by rw [f_X3_isRoomFor]) Bf_no
theorem kb_f_X3_pushAll {P : Prop} : ∀ (k b : Nat) (L : LV) (σ : CS), BY P σ → Bf P (f_X3_pushAll k b L σ) := by
  intro k
  induction k with
  | zero => intro b L σ _; exact Bf_no
  | succ k ih =>
    intro b L σ hb
    match b with
    | 0 =>
      refine Bf_eq (by rw [f_X3_pushAll]) ?_
      exact Bf_ox (kb_f_X3_isRoomFor _ _ _ _ hb) (fun _ h500 => Bf_ite (ih _ _ _ h500) (ih _ _ _ h500))
    | 1 =>
      refine Bf_eq (by rw [f_X3_pushAll]) ?_
      exact Bf_so hb
    | 2 =>
      refine Bf_eq (by rw [f_X3_pushAll]) ?_
      exact Bf_ite (ih _ _ _ hb) (Bf_ite (ih _ _ _ (BY_A (by decide) hb)) (Bf_no))
    | 3 =>
      refine Bf_eq (by rw [f_X3_pushAll]) ?_
      exact ih _ _ _ (BY_I (by decide) hb)
    | b + 4 =>
      exact Bf_eq (by rw [f_X3_pushAll]) Bf_no
theorem kb_f_X3_restart {P : Prop} : ∀ (k b : Nat) (L : LV) (σ : CS), BY P σ → Bf P (f_X3_restart k b L σ) := by
  intro k
  induction k with
  | zero => intro b L σ _; exact Bf_no
  | succ k ih =>
    intro b L σ hb
    match b with
    | 0 =>
      refine Bf_eq (by rw [f_X3_restart]) ?_
      exact Bf_oP (fun _ => ih _ _ _ (BY_I (by decide) (BY_I (by decide) (BY_I (by decide) hb))))
    | 1 =>
      refine Bf_eq (by rw [f_X3_restart]) ?_
      exact ih _ _ _ (BY_I (by decide) (BY_I (by decide) (BY_I (by decide) hb)))
    | 2 =>
      refine Bf_eq (by rw [f_X3_restart]) ?_
      exact ih _ _ _ (BY_I (by decide) (BY_7 (Or.inl rfl) (BY_I (by decide) hb)))
    | 3 =>
      refine Bf_eq (by rw [f_X3_restart]) ?_
      exact Bf_oP (fun _ => Bf_ite (ih _ _ _ (BY_I (by decide) (BY_I (by decide) (BY_I (by decide) hb)))) (Bf_no))
    | 4 =>
      refine Bf_eq (by rw [f_X3_restart]) ?_
      exact ih _ _ _ (BY_I (by decide) (BY_I (by decide) (BY_I (by decide) hb)))
    | 5 =>
      refine Bf_eq (by rw [f_X3_restart]) ?_
      exact Bf_ox (kb_f_X3_pushAll _ _ _ _ (BY_L (BY_I (by decide) hb))) (fun _ h501 => Bf_oP (fun _ => Bf_ite (Bf_ox (kb_f_X3_pushAll _ _ _ _ h501) (fun _ h502 => Bf_so h502)) (Bf_no)))
    | b + 6 =>
      exact Bf_eq (by rw [f_X3_restart]) Bf_no
theorem kb_y_X8_copyFrom__a19__R : ∀ (k b : Nat) (L : LV) (σ : CS), BY False σ → By False (y_X8_copyFrom__a19__R k b L σ) := by
  intro k
  induction k with
  | zero => intro b L σ _; exact By_no
  | succ k ih =>
    intro b L σ hb
    match b with
    | 0 =>
      refine By_eq (by rw [y_X8_copyFrom__a19__R]) ?_
      exact By_ite (By_ite (By_ite (ih _ _ _ (BY_I (by decide) (BY_I (by decide) (BY_I (by decide) hb)))) (By_no)) (By_no)) (By_no)
    | 1 =>
      refine By_eq (by rw [y_X8_copyFrom__a19__R]) ?_
      exact By_ite (By_ite (By_ite (ih _ _ _ (BY_I (by decide) (BY_I (by decide) (BY_I (by decide) hb)))) (By_no)) (By_no)) (By_no)
    | 2 =>
      refine By_eq (by rw [y_X8_copyFrom__a19__R]) ?_
      exact By_ite (By_ite (By_ite (ih _ _ _ (BY_I (by decide) (BY_7 (Or.inr (fun y => y)) (BY_I (by decide) hb)))) (By_no)) (By_no)) (By_no)
    | 3 =>
      refine By_eq (by rw [y_X8_copyFrom__a19__R]) ?_
      exact By_ite (By_ite (By_ite (ih _ _ _ (BY_I (by decide) (BY_I (by decide) (BY_I (by decide) hb)))) (By_no)) (By_no)) (By_no)
    | 4 =>
      refine By_eq (by rw [y_X8_copyFrom__a19__R]) ?_
      exact By_ite (By_ite (By_ite (ih _ _ _ (BY_I (by decide) (BY_I (by decide) (BY_I (by decide) hb)))) (By_no)) (By_no)) (By_no)
    | 5 =>
      refine By_eq (by rw [y_X8_copyFrom__a19__R]) ?_
      exact By_ite (By_ite (By_so (BY_L (BY_I (by decide) hb))) (By_no)) (By_no)
    | b + 6 =>
      exact By_eq (by rw [y_X8_copyFrom__a19__R]) By_no
theorem kb_f_X3_goBack : ∀ (k b : Nat) (L : LV) (σ : CS), BY False σ → Bf False (f_X3_goBack k b L σ) := by
  intro k
  induction k with
  | zero => intro b L σ _; exact Bf_no
  | succ k ih =>
    intro b L σ hb
    match b with
    | 0 =>
      refine Bf_eq (by rw [f_X3_goBack]) ?_
      exact Bf_op (kb_y_X9_newest _ _ _ _ hb) (fun _ h503 => Bf_ite (Bf_ox (kb_f_X3_restart _ _ _ _ h503) (fun _ h504 => Bf_so h504)) (ih _ _ _ h503))
    | 1 =>
      refine Bf_eq (by rw [f_X3_goBack]) ?_
      exact Bf_ite (Bf_op (kb_y_X8_copyFrom__a19__R _ _ _ _ hb) (fun _ h505 => Bf_ite (Bf_ite (ih _ _ _ (BY_F (by decide) h505)) (Bf_no)) (Bf_no))) (Bf_no)
    | 2 =>
      refine Bf_eq (by rw [f_X3_goBack]) ?_
      exact Bf_ite (Bf_ite (ih _ _ _ (BY_F (by decide) hb)) (Bf_no)) (Bf_no)
    | 3 =>
      refine Bf_eq (by rw [f_X3_goBack]) ?_
      exact Bf_so hb
    | b + 4 =>
      exact Bf_eq (by rw [f_X3_goBack]) Bf_no
theorem kb_f_X3_makeRoom {P : Prop} : ∀ (k b : Nat) (L : LV) (σ : CS), BY P σ → Bf P (f_X3_makeRoom k b L σ) := by
  intro k
  induction k with
  | zero => intro b L σ _; exact Bf_no
  | succ k ih =>
    intro b L σ hb
    match b with
    | 0 =>
      refine Bf_eq (by rw [f_X3_makeRoom]) ?_
      exact Bf_op (kb_y_X1_isTight _ _ _ _ hb) (fun _ h506 => Bf_ite (Bf_so h506) (ih _ _ _ h506))
    | 1 =>
      refine Bf_eq (by rw [f_X3_makeRoom]) ?_
      exact Bf_op (kb_y_X3_moveAll _ _ _ _ hb) (fun _ h507 => Bf_ox (kb_f_X1_widen _ _ _ _ h507) (fun _ h508 => Bf_op (kb_y_X1_isScarce _ _ _ _ h508) (fun _ h509 => Bf_ite (ih _ _ _ h509) (Bf_op (kb_y_X9_used _ _ _ _ h509) (fun _ h510 => Bf_ite (ih _ _ _ h510) (Bf_op (kb_y_X9_drop _ _ _ _ h510) (fun _ h511 => Bf_op (kb_y_X3_moveAll _ _ _ _ h511) (fun _ h512 => ih _ _ _ h512))))))))
    | 2 =>
      refine Bf_eq (by rw [f_X3_makeRoom]) ?_
      exact Bf_so hb
    | b + 3 =>
      exact Bf_eq (by rw [f_X3_makeRoom]) Bf_no
theorem kb_f_X9_thinOut {P : Prop} : ∀ (k b : Nat) (L : LV) (σ : CS), BY P σ → Bf P (f_X9_thinOut k b L σ) := by
  intro k
  induction k with
  | zero => intro b L σ _; exact Bf_no
  | succ k ih =>
    intro b L σ hb
    match b with
    | 0 =>
      refine Bf_eq (by rw [f_X9_thinOut]) ?_
      exact ih _ _ _ (BY_I (by decide) (BY_I (by decide) hb))
    | 1 =>
      refine Bf_eq (by rw [f_X9_thinOut]) ?_
      exact ih _ _ _ (BY_I (by decide) hb)
    | 2 =>
      refine Bf_eq (by rw [f_X9_thinOut]) ?_
      exact Bf_ite (ih _ _ _ hb) (Bf_ite (Bf_ite (Bf_ite (Bf_no) (Bf_ite (Bf_ite (Bf_ite (Bf_ite (Bf_ite (ih _ _ _ (BY_F (by decide) hb)) (Bf_no)) (Bf_no)) (Bf_no)) (Bf_no)) (ih _ _ _ hb))) (Bf_no)) (Bf_no))
    | 3 =>
      refine Bf_eq (by rw [f_X9_thinOut]) ?_
      exact Bf_so hb
    | 4 =>
      refine Bf_eq (by rw [f_X9_thinOut]) ?_
      exact ih _ _ _ hb
    | 5 =>
      refine Bf_eq (by rw [f_X9_thinOut]) ?_
      exact Bf_ite (Bf_ite (Bf_ite (ih _ _ _ (BY_uPi hb)) (Bf_no)) (Bf_no)) (Bf_no)
    | 6 =>
      refine Bf_eq (by rw [f_X9_thinOut]) ?_
      exact Bf_ite (Bf_ite (Bf_ite (Bf_ite (Bf_ite (ih _ _ _ (BY_I (by decide) (BY_A (by decide) (BY_uPi hb)))) (Bf_no)) (Bf_no)) (Bf_no)) (Bf_no)) (Bf_no)
    | 7 =>
      refine Bf_eq (by rw [f_X9_thinOut]) ?_
      exact ih _ _ _ (BY_I (by decide) hb)
    | b + 8 =>
      exact Bf_eq (by rw [f_X9_thinOut]) Bf_no
theorem kb_y_X9_isRoomFor__a19 {P : Prop} : ∀ (k b : Nat) (L : LV) (σ : CS), BY P σ → By P (y_X9_isRoomFor__a19 k b L σ) := by
  intro k
  induction k with
  | zero => intro b L σ _; exact By_no
  | succ k ih =>
    intro b L σ hb
    match b with
    | 0 =>
      refine By_eq (by rw [y_X9_isRoomFor__a19]) ?_
      exact ih _ _ _ hb
    | 1 =>
      refine By_eq (by rw [y_X9_isRoomFor__a19]) ?_
      exact By_ite (ih _ _ _ hb) (By_ite (By_ite (By_ite (By_ite (ih _ _ _ hb) (By_no)) (By_no)) (By_no)) (By_no))
    | 2 =>
      refine By_eq (by rw [y_X9_isRoomFor__a19]) ?_
      exact By_ite (ih _ _ _ hb) (By_ite (ih _ _ _ hb) (ih _ _ _ hb))
    | 3 =>
      refine By_eq (by rw [y_X9_isRoomFor__a19]) ?_
      exact ih _ _ _ hb
    | 4 =>
      refine By_eq (by rw [y_X9_isRoomFor__a19]) ?_
      exact By_ite (By_so hb) (By_no)
    | b + 5 =>
      exact By_eq (by rw [y_X9_isRoomFor__a19]) By_no
theorem kb_y_X8_copyFrom__R__a19 {P : Prop} : ∀ (k b : Nat) (L : LV) (σ : CS), BY P σ → By P (y_X8_copyFrom__R__a19 k b L σ) := by
  intro k
  induction k with
  | zero => intro b L σ _; exact By_no
  | succ k ih =>
    intro b L σ hb
    match b with
    | 0 =>
      refine By_eq (by rw [y_X8_copyFrom__R__a19]) ?_
      exact By_ite (By_ite (By_ite (ih _ _ _ (BY_I (by omega) (BY_I (by omega) (BY_I (by omega) hb)))) (By_no)) (By_no)) (By_no)
    | 1 =>
      refine By_eq (by rw [y_X8_copyFrom__R__a19]) ?_
      exact By_ite (By_ite (By_ite (ih _ _ _ (BY_I (by omega) (BY_I (by omega) (BY_I (by omega) hb)))) (By_no)) (By_no)) (By_no)
    | 2 =>
      refine By_eq (by rw [y_X8_copyFrom__R__a19]) ?_
      exact By_ite (By_ite (By_ite (ih _ _ _ (BY_I (by omega) (BY_I (by omega) (BY_I (by omega) hb)))) (By_no)) (By_no)) (By_no)
    | 3 =>
      refine By_eq (by rw [y_X8_copyFrom__R__a19]) ?_
      exact By_ite (By_ite (By_ite (ih _ _ _ (BY_I (by omega) (BY_I (by omega) (BY_I (by omega) hb)))) (By_no)) (By_no)) (By_no)
    | 4 =>
      refine By_eq (by rw [y_X8_copyFrom__R__a19]) ?_
      exact By_ite (By_ite (By_ite (ih _ _ _ (BY_I (by omega) (BY_I (by omega) (BY_I (by omega) hb)))) (By_no)) (By_no)) (By_no)
    | 5 =>
      refine By_eq (by rw [y_X8_copyFrom__R__a19]) ?_
      exact By_ite (By_ite (By_so (BY_L (BY_I (by omega) hb))) (By_no)) (By_no)
    | b + 6 =>
      exact By_eq (by rw [y_X8_copyFrom__R__a19]) By_no
theorem kb_f_X9_store__a19__z20__z21 {P : Prop} : ∀ (k b : Nat) (L : LV) (σ : CS), BY P σ → Bf P (f_X9_store__a19__z20__z21 k b L σ) := by
  intro k
  induction k with
  | zero => intro b L σ _; exact Bf_no
  | succ k ih =>
    intro b L σ hb
    match b with
    | 0 =>
      refine Bf_eq (by rw [f_X9_store__a19__z20__z21]) ?_
      exact Bf_ite (Bf_ite (Bf_ad (ih _ _ _ (BY_Z ⟨fun z => absurd z (by decide), fun z => absurd z (by decide)⟩ hb))) (ih _ _ _ hb)) (Bf_no)
    | 1 =>
      refine Bf_eq (by rw [f_X9_store__a19__z20__z21]) ?_
      exact Bf_ite (ih _ _ _ (BY_A (by decide) hb)) (Bf_no)
    | 2 =>
      refine Bf_eq (by rw [f_X9_store__a19__z20__z21]) ?_
      exact Bf_ite (Bf_ite (Bf_op (kb_y_X8_copyFrom__R__a19 _ _ _ _ hb) (fun _ h513 => Bf_ite (ih _ _ _ (BY_F (by decide) h513)) (Bf_no))) (Bf_no)) (Bf_no)
    | 3 =>
      refine Bf_eq (by rw [f_X9_store__a19__z20__z21]) ?_
      exact Bf_ite (ih _ _ _ (BY_F (by decide) hb)) (Bf_no)
    | 4 =>
      refine Bf_eq (by rw [f_X9_store__a19__z20__z21]) ?_
      exact Bf_so hb
    | b + 5 =>
      exact Bf_eq (by rw [f_X9_store__a19__z20__z21]) Bf_no
theorem kb_f_X9_add__a19__z20__z21 {P : Prop} : ∀ (k b : Nat) (L : LV) (σ : CS), BY P σ → Bf P (f_X9_add__a19__z20__z21 k b L σ) := by
  intro k
  induction k with
  | zero => intro b L σ _; exact Bf_no
  | succ k ih =>
    intro b L σ hb
    match b with
    | 0 =>
      refine Bf_eq (by rw [f_X9_add__a19__z20__z21]) ?_
      exact ih _ _ _ (BY_I (by decide) hb)
    | 1 =>
      refine Bf_eq (by rw [f_X9_add__a19__z20__z21]) ?_
      exact Bf_ite (ih _ _ _ hb) (Bf_ite (ih _ _ _ hb) (Bf_ite (ih _ _ _ hb) (Bf_op (kb_y_X9_isRoomFor__a19 _ _ _ _ hb) (fun _ h514 => Bf_ite (ih _ _ _ h514) (ih _ _ _ h514)))))
    | 2 =>
      refine Bf_eq (by rw [f_X9_add__a19__z20__z21]) ?_
      exact Bf_ite (Bf_no) (Bf_ite (Bf_no) (Bf_ite (Bf_op (kb_y_X9_isRoomFor__a19 _ _ _ _ (BY_I (by decide) hb)) (fun _ h515 => Bf_ite (ih _ _ _ h515) (Bf_ox (kb_f_X9_store__a19__z20__z21 _ _ _ _ h515) (fun _ h516 => ih _ _ _ (BY_I (by decide) h516))))) (ih _ _ _ (BY_I (by decide) hb))))
    | 3 =>
      refine Bf_eq (by rw [f_X9_add__a19__z20__z21]) ?_
      exact Bf_ox (kb_f_X9_thinOut _ _ _ _ hb) (fun _ h517 => ih _ _ _ h517)
    | 4 =>
      refine Bf_eq (by rw [f_X9_add__a19__z20__z21]) ?_
      exact Bf_so hb
    | 5 =>
      refine Bf_eq (by rw [f_X9_add__a19__z20__z21]) ?_
      exact ih _ _ _ (BY_I (by decide) hb)
    | b + 6 =>
      exact Bf_eq (by rw [f_X9_add__a19__z20__z21]) Bf_no
theorem kb_f_X9_addNear__a19__z20__z21 {P : Prop} : ∀ (k b : Nat) (L : LV) (σ : CS), BY P σ → Bf P (f_X9_addNear__a19__z20__z21 k b L σ) := by
  intro k
  induction k with
  | zero => intro b L σ _; exact Bf_no
  | succ k ih =>
    intro b L σ hb
    match b with
    | 0 =>
      refine Bf_eq (by rw [f_X9_addNear__a19__z20__z21]) ?_
      exact Bf_ite (ih _ _ _ hb) (ih _ _ _ hb)
    | 1 =>
      refine Bf_eq (by rw [f_X9_addNear__a19__z20__z21]) ?_
      exact ih _ _ _ hb
    | 2 =>
      refine Bf_eq (by rw [f_X9_addNear__a19__z20__z21]) ?_
      exact Bf_ite (Bf_ite (ih _ _ _ (BY_I (by decide) hb)) (Bf_ox (kb_f_X9_store__a19__z20__z21 _ _ _ _ (BY_I (by decide) hb)) (fun _ h518 => ih _ _ _ h518))) (Bf_no)
    | 3 =>
      refine Bf_eq (by rw [f_X9_addNear__a19__z20__z21]) ?_
      exact Bf_so hb
    | b + 4 =>
      exact Bf_eq (by rw [f_X9_addNear__a19__z20__z21]) Bf_no
theorem kb_f_X3_save {P : Prop} : ∀ (k b : Nat) (L : LV) (σ : CS), BY P σ → Bf P (f_X3_save k b L σ) := by
  intro k
  induction k with
  | zero => intro b L σ _; exact Bf_no
  | succ k ih =>
    intro b L σ hb
    match b with
    | 0 =>
      refine Bf_eq (by rw [f_X3_save]) ?_
      exact Bf_ite (Bf_ox (kb_f_X9_add__a19__z20__z21 _ _ _ _ (BY_I (by decide) hb)) (fun _ h519 => ih _ _ _ h519)) (ih _ _ _ (BY_I (by decide) hb))
    | 1 =>
      refine Bf_eq (by rw [f_X3_save]) ?_
      exact Bf_ite (Bf_ox (kb_f_X9_addNear__a19__z20__z21 _ _ _ _ hb) (fun _ h520 => ih _ _ _ h520)) (ih _ _ _ hb)
    | 2 =>
      refine Bf_eq (by rw [f_X3_save]) ?_
      exact Bf_so (BY_I (by decide) hb)
    | b + 3 =>
      exact Bf_eq (by rw [f_X3_save]) Bf_no
theorem kb_f_X3_flow {P : Prop} : ∀ (k b : Nat) (L : LV) (σ : CS), BY P σ → Bf P (f_X3_flow k b L σ) := by
  intro k
  induction k with
  | zero => intro b L σ _; exact Bf_no
  | succ k ih =>
    intro b L σ hb
    match b with
    | 0 =>
      refine Bf_eq (by rw [f_X3_flow]) ?_
      exact Bf_ite (ih _ _ _ hb) (Bf_ite (ih _ _ _ hb) (Bf_ite (ih _ _ _ hb) (Bf_ite (ih _ _ _ hb) (Bf_ite (ih _ _ _ hb) (Bf_ite (ih _ _ _ hb) (Bf_ite (ih _ _ _ hb) (Bf_ite (ih _ _ _ hb) (Bf_ite (ih _ _ _ hb) (Bf_ite (ih _ _ _ hb) (ih _ _ _ hb))))))))))
    | 1 =>
      refine Bf_eq (by rw [f_X3_flow]) ?_
      exact Bf_ite (ih _ _ _ hb) (Bf_ite (ih _ _ _ hb) (Bf_ite (ih _ _ _ hb) (ih _ _ _ hb)))
    | 2 =>
      refine Bf_eq (by rw [f_X3_flow]) ?_
      exact ih _ _ _ (BY_h7 hb)
    | 3 =>
      refine Bf_eq (by rw [f_X3_flow]) ?_
      exact ih _ _ _ (BY_I (by decide) hb)
    | 4 =>
      refine Bf_eq (by rw [f_X3_flow]) ?_
      exact Bf_op (kb_y_X3_pop _ _ _ _ hb) (fun _ h521 => Bf_op (kb_y_X3_wantTruth _ _ _ _ h521) (fun _ h522 => Bf_ite (ih _ _ _ h522) (Bf_ite (ih _ _ _ h522) (ih _ _ _ h522))))
    | 5 =>
      refine Bf_eq (by rw [f_X3_flow]) ?_
      exact Bf_ite (ih _ _ _ hb) (ih _ _ _ hb)
    | 6 =>
      refine Bf_eq (by rw [f_X3_flow]) ?_
      exact Bf_ite (Bf_op (kb_y_X3_wantTruth _ _ _ _ hb) (fun _ h523 => Bf_ite (ih _ _ _ h523) (Bf_op (kb_y_X3_spend _ _ _ _ h523) (fun _ h524 => ih _ _ _ h524)))) (Bf_no)
    | 7 =>
      refine Bf_eq (by rw [f_X3_flow]) ?_
      exact Bf_ite (Bf_op (kb_y_X3_wantTruth _ _ _ _ hb) (fun _ h525 => Bf_ite (ih _ _ _ h525) (Bf_ite (Bf_ite (ih _ _ _ h525) (ih _ _ _ h525)) (Bf_no)))) (Bf_no)
    | 8 =>
      refine Bf_eq (by rw [f_X3_flow]) ?_
      exact ih _ _ _ (BY_h hb)
    | 9 =>
      refine Bf_eq (by rw [f_X3_flow]) ?_
      exact Bf_op (kb_y_X3_beginStatement _ _ _ _ hb) (fun _ h526 => ih _ _ _ h526)
    | 10 =>
      refine Bf_eq (by rw [f_X3_flow]) ?_
      exact Bf_ox (kb_f_X3_save _ _ _ _ hb) (fun _ h527 => ih _ _ _ h527)
    | 11 =>
      refine Bf_eq (by rw [f_X3_flow]) ?_
      exact Bf_so hb
    | 12 =>
      refine Bf_eq (by rw [f_X3_flow]) ?_
      exact ih _ _ _ hb
    | 13 =>
      refine Bf_eq (by rw [f_X3_flow]) ?_
      exact Bf_ite (ih _ _ _ hb) (ih _ _ _ hb)
    | 14 =>
      refine Bf_eq (by rw [f_X3_flow]) ?_
      exact ih _ _ _ hb
    | 15 =>
      refine Bf_eq (by rw [f_X3_flow]) ?_
      exact Bf_op (kb_y_X3_shortcut _ _ _ _ hb) (fun _ h528 => ih _ _ _ h528)
    | 16 =>
      refine Bf_eq (by rw [f_X3_flow]) ?_
      exact ih _ _ _ hb
    | 17 =>
      refine Bf_eq (by rw [f_X3_flow]) ?_
      exact Bf_op (kb_y_X11_truth _ _ _ _ hb) (fun _ h529 => Bf_op (kb_y_X3_replace _ _ _ _ h529) (fun _ h530 => ih _ _ _ h530))
    | 18 =>
      refine Bf_eq (by rw [f_X3_flow]) ?_
      exact ih _ _ _ hb
    | 19 =>
      refine Bf_eq (by rw [f_X3_flow]) ?_
      exact Bf_ite (ih _ _ _ (BY_I (by decide) hb)) (ih _ _ _ hb)
    | b + 20 =>
      exact Bf_eq (by rw [f_X3_flow]) Bf_no
theorem kb_f_X3_enter {P : Prop} : ∀ (k b : Nat) (L : LV) (σ : CS), BY P σ → Bf P (f_X3_enter k b L σ) := by
  intro k
  induction k with
  | zero => intro b L σ _; exact Bf_no
  | succ k ih =>
    intro b L σ hb
    match b with
    | 0 =>
      refine Bf_eq (by rw [f_X3_enter]) ?_
      exact Bf_oP (fun _ => Bf_ite (Bf_op (kb_y_X11_raw _ _ _ _ hb) (fun _ h531 => Bf_ite (Bf_op (kb_y_X11_raw _ _ _ _ (BY_A (by decide) h531)) (fun _ h532 => ih _ _ _ h532)) (Bf_no))) (Bf_no))
    | 1 =>
      refine Bf_eq (by rw [f_X3_enter]) ?_
      exact Bf_ite (Bf_op (kb_y_X11_raw _ _ _ _ (BY_A (by decide) hb)) (fun _ h533 => Bf_ite (ih _ _ _ (BY_A (by decide) h533)) (Bf_no))) (Bf_no)
    | 2 =>
      refine Bf_eq (by rw [f_X3_enter]) ?_
      exact Bf_op (kb_y_X11_raw _ _ _ _ hb) (fun _ h534 => Bf_ite (ih _ _ _ (BY_I (by decide) (BY_A (by decide) h534))) (Bf_no))
    | 3 =>
      refine Bf_eq (by rw [f_X3_enter]) ?_
      exact Bf_oP (fun _ => Bf_ite (Bf_oP (fun _ => Bf_ite (Bf_ox (kb_f_X3_pushAll _ _ _ _ hb) (fun _ h535 => Bf_oP (fun _ => Bf_ite (Bf_so (BY_I (by decide) h535)) (Bf_no)))) (Bf_no))) (Bf_no))
    | b + 4 =>
      exact Bf_eq (by rw [f_X3_enter]) Bf_no
theorem kb_f_X3_callFunc {P : Prop} : ∀ (k b : Nat) (L : LV) (σ : CS), BY P σ → Bf P (f_X3_callFunc k b L σ) := by
  intro k
  induction k with
  | zero => intro b L σ _; exact Bf_no
  | succ k ih =>
    intro b L σ hb
    match b with
    | 0 =>
      refine Bf_eq (by rw [f_X3_callFunc]) ?_
      exact Bf_oP (fun _ => Bf_ite (Bf_oP (fun _ => Bf_ite (Bf_ite (ih _ _ _ hb) (Bf_ite (ih _ _ _ hb) (ih _ _ _ hb))) (Bf_no))) (Bf_no))
    | 1 =>
      refine Bf_eq (by rw [f_X3_callFunc]) ?_
      exact Bf_op (kb_y_X3_fail _ _ _ _ hb) (fun _ h536 => Bf_so h536)
    | 2 =>
      refine Bf_eq (by rw [f_X3_callFunc]) ?_
      exact ih _ _ _ (BY_I (by decide) (BY_I (by decide) (BY_I (by decide) hb)))
    | 3 =>
      refine Bf_eq (by rw [f_X3_callFunc]) ?_
      exact Bf_ox (kb_f_X3_enter _ _ _ _ hb) (fun _ h537 => Bf_so h537)
    | b + 4 =>
      exact Bf_eq (by rw [f_X3_callFunc]) Bf_no
theorem kb_f_X3_push {P : Prop} : ∀ (k b : Nat) (L : LV) (σ : CS), BY P σ → Bf P (f_X3_push k b L σ) := by
  intro k
  induction k with
  | zero => intro b L σ _; exact Bf_no
  | succ k ih =>
    intro b L σ hb
    match b with
    | 0 =>
      refine Bf_eq (by rw [f_X3_push]) ?_
      exact Bf_ite (ih _ _ _ hb) (Bf_ox (kb_f_X3_isRoomFor _ _ _ _ hb) (fun _ h538 => Bf_ite (ih _ _ _ h538) (ih _ _ _ h538)))
    | 1 =>
      refine Bf_eq (by rw [f_X3_push]) ?_
      exact Bf_ite (ih _ _ _ (BY_I (by decide) (BY_A (by decide) hb))) (Bf_no)
    | 2 =>
      refine Bf_eq (by rw [f_X3_push]) ?_
      exact Bf_so hb
    | b + 3 =>
      exact Bf_eq (by rw [f_X3_push]) Bf_no
theorem kb_f_X3_give {P : Prop} : ∀ (k b : Nat) (L : LV) (σ : CS), BY P σ → Bf P (f_X3_give k b L σ) := by
  intro k
  induction k with
  | zero => intro b L σ _; exact Bf_no
  | succ k ih =>
    intro b L σ hb
    match b with
    | 0 =>
      refine Bf_eq (by rw [f_X3_give]) ?_
      exact Bf_ox (kb_f_X3_push _ _ _ _ hb) (fun _ h539 => Bf_op (kb_y_X3_replace _ _ _ _ h539) (fun _ h540 => Bf_so h540))
    | b + 1 =>
      exact Bf_eq (by rw [f_X3_give]) Bf_no
theorem kb_f_X3_endFunc {P : Prop} : ∀ (k b : Nat) (L : LV) (σ : CS), BY P σ → Bf P (f_X3_endFunc k b L σ) := by
  intro k
  induction k with
  | zero => intro b L σ _; exact Bf_no
  | succ k ih =>
    intro b L σ hb
    match b with
    | 0 =>
      refine Bf_eq (by rw [f_X3_endFunc]) ?_
      exact Bf_op (kb_y_X3_pop _ _ _ _ hb) (fun _ h541 => Bf_ite (Bf_op (kb_y_X11_unraw _ _ _ _ (BY_I (by decide) h541)) (fun _ h542 => ih _ _ _ (BY_I (by decide) h542))) (Bf_no))
    | 1 =>
      refine Bf_eq (by rw [f_X3_endFunc]) ?_
      exact Bf_ite (Bf_op (kb_y_X11_unraw _ _ _ _ hb) (fun _ h543 => Bf_ite (Bf_op (kb_y_X11_unraw _ _ _ _ (BY_I (by decide) h543)) (fun _ h544 => ih _ _ _ h544)) (Bf_no))) (Bf_no)
    | 2 =>
      refine Bf_eq (by rw [f_X3_endFunc]) ?_
      exact Bf_ite (Bf_op (kb_y_X11_unraw _ _ _ _ (BY_I (by decide) hb)) (fun _ h545 => ih _ _ _ (BY_I (by decide) h545))) (Bf_no)
    | 3 =>
      refine Bf_eq (by rw [f_X3_endFunc]) ?_
      exact Bf_ox (kb_f_X3_give _ _ _ _ (BY_I (by decide) hb)) (fun _ h546 => Bf_so h546)
    | b + 4 =>
      exact Bf_eq (by rw [f_X3_endFunc]) Bf_no
theorem kb_f_X3_callProc {P : Prop} : ∀ (k b : Nat) (L : LV) (σ : CS), BY P σ → Bf P (f_X3_callProc k b L σ) := by
  intro k
  induction k with
  | zero => intro b L σ _; exact Bf_no
  | succ k ih =>
    intro b L σ hb
    match b with
    | 0 =>
      refine Bf_eq (by rw [f_X3_callProc]) ?_
      exact Bf_ite (ih _ _ _ hb) (Bf_op (kb_y_X3_fail _ _ _ _ hb) (fun _ h547 => Bf_so h547))
    | 1 =>
      refine Bf_eq (by rw [f_X3_callProc]) ?_
      exact Bf_oP (fun _ => Bf_ite (Bf_oP (fun _ => Bf_ite (ih _ _ _ hb) (Bf_no))) (Bf_no))
    | 2 =>
      refine Bf_eq (by rw [f_X3_callProc]) ?_
      exact Bf_ite (ih _ _ _ hb) (Bf_ite (Bf_op (kb_y_X1_size _ _ _ _ hb) (fun _ h548 => ih _ _ _ h548)) (Bf_no))
    | 3 =>
      refine Bf_eq (by rw [f_X3_callProc]) ?_
      exact Bf_ite (ih _ _ _ hb) (Bf_op (kb_y_X3_fail _ _ _ _ hb) (fun _ h549 => Bf_so h549))
    | 4 =>
      refine Bf_eq (by rw [f_X3_callProc]) ?_
      exact Bf_ox (kb_f_X3_enter _ _ _ _ hb) (fun _ h550 => ih _ _ _ (BY_I (by decide) (BY_I (by decide) (BY_I (by decide) h550))))
    | 5 =>
      refine Bf_eq (by rw [f_X3_callProc]) ?_
      exact Bf_so hb
    | b + 6 =>
      exact Bf_eq (by rw [f_X3_callProc]) Bf_no
theorem kb_f_X3_makePoint {P : Prop} : ∀ (k b : Nat) (L : LV) (σ : CS), BY P σ → Bf P (f_X3_makePoint k b L σ) := by
  intro k
  induction k with
  | zero => intro b L σ _; exact Bf_no
  | succ k ih =>
    intro b L σ hb
    match b with
    | 0 =>
      refine Bf_eq (by rw [f_X3_makePoint]) ?_
      exact Bf_ite (ih _ _ _ hb) (Bf_ite (ih _ _ _ hb) (ih _ _ _ hb))
    | 1 =>
      refine Bf_eq (by rw [f_X3_makePoint]) ?_
      exact Bf_op (kb_y_X3_fail _ _ _ _ hb) (fun _ h551 => Bf_so h551)
    | 2 =>
      refine Bf_eq (by rw [f_X3_makePoint]) ?_
      exact Bf_ite (Bf_ite (Bf_ad (ih _ _ _ (BY_Z ⟨fun z => absurd z (by decide), fun z => absurd z (by decide)⟩ hb))) (ih _ _ _ hb)) (Bf_no)
    | 3 =>
      refine Bf_eq (by rw [f_X3_makePoint]) ?_
      exact Bf_ite (ih _ _ _ hb) (Bf_op (kb_y_X3_fail _ _ _ _ hb) (fun _ h552 => Bf_so h552))
    | 4 =>
      refine Bf_eq (by rw [f_X3_makePoint]) ?_
      exact Bf_ite (ih _ _ _ (BY_F (by decide) hb)) (Bf_no)
    | 5 =>
      refine Bf_eq (by rw [f_X3_makePoint]) ?_
      exact Bf_op (kb_y_X11_raw _ _ _ _ hb) (fun _ h553 => Bf_ite (ih _ _ _ (BY_A (by decide) h553)) (Bf_no))
    | 6 =>
      refine Bf_eq (by rw [f_X3_makePoint]) ?_
      exact Bf_op (kb_y_X11_raw _ _ _ _ hb) (fun _ h554 => Bf_ite (Bf_op (kb_y_X11_raw _ _ _ _ (BY_A (by decide) h554)) (fun _ h555 => ih _ _ _ h555)) (Bf_no))
    | 7 =>
      refine Bf_eq (by rw [f_X3_makePoint]) ?_
      exact Bf_ite (Bf_op (kb_y_X11_raw _ _ _ _ (BY_A (by decide) hb)) (fun _ h556 => Bf_ite (ih _ _ _ (BY_A (by decide) h556)) (Bf_no))) (Bf_no)
    | 8 =>
      refine Bf_eq (by rw [f_X3_makePoint]) ?_
      exact Bf_op (kb_y_X11_raw _ _ _ _ hb) (fun _ h557 => Bf_ite (Bf_op (kb_y_X11_raw _ _ _ _ (BY_A (by decide) h557)) (fun _ h558 => ih _ _ _ h558)) (Bf_no))
    | 9 =>
      refine Bf_eq (by rw [f_X3_makePoint]) ?_
      exact Bf_ite (ih _ _ _ (BY_I (by decide) (BY_I (by decide) (BY_A (by decide) hb)))) (Bf_no)
    | 10 =>
      refine Bf_eq (by rw [f_X3_makePoint]) ?_
      exact Bf_ox (kb_f_X3_push _ _ _ _ (BY_I (by decide) hb)) (fun _ h559 => Bf_so h559)
    | b + 11 =>
      exact Bf_eq (by rw [f_X3_makePoint]) Bf_no
theorem kb_f_X3_leavePoint {P : Prop} : ∀ (k b : Nat) (L : LV) (σ : CS), BY P σ → Bf P (f_X3_leavePoint k b L σ) := by
  intro k
  induction k with
  | zero => intro b L σ _; exact Bf_no
  | succ k ih =>
    intro b L σ hb
    match b with
    | 0 =>
      refine Bf_eq (by rw [f_X3_leavePoint]) ?_
      exact Bf_ite (Bf_op (kb_y_X3_fail _ _ _ _ hb) (fun _ h560 => Bf_so h560)) (ih _ _ _ hb)
    | 1 =>
      refine Bf_eq (by rw [f_X3_leavePoint]) ?_
      exact Bf_ite (Bf_op (kb_y_X11_unraw _ _ _ _ hb) (fun _ h561 => Bf_ite (Bf_op (kb_y_X11_unraw _ _ _ _ h561) (fun _ h562 => ih _ _ _ (BY_I (by decide) h562))) (Bf_no))) (Bf_no)
    | 2 =>
      refine Bf_eq (by rw [f_X3_leavePoint]) ?_
      exact Bf_ite (ih _ _ _ (BY_I (by decide) (BY_I (by decide) hb))) (Bf_ite (Bf_op (kb_y_X11_unraw _ _ _ _ (BY_I (by decide) (BY_I (by decide) hb))) (fun _ h563 => ih _ _ _ h563)) (Bf_no))
    | 3 =>
      refine Bf_eq (by rw [f_X3_leavePoint]) ?_
      exact Bf_so hb
    | 4 =>
      refine Bf_eq (by rw [f_X3_leavePoint]) ?_
      exact Bf_ite (Bf_op (kb_y_X11_unraw _ _ _ _ (BY_I (by decide) hb)) (fun _ h564 => ih _ _ _ (BY_I (by decide) h564))) (Bf_no)
    | 5 =>
      refine Bf_eq (by rw [f_X3_leavePoint]) ?_
      exact Bf_ite (Bf_op (kb_y_X11_unraw _ _ _ _ (BY_I (by decide) hb)) (fun _ h565 => ih _ _ _ (BY_I (by decide) h565))) (Bf_no)
    | 6 =>
      refine Bf_eq (by rw [f_X3_leavePoint]) ?_
      exact Bf_ite (Bf_op (kb_y_X11_unraw _ _ _ _ (BY_I (by decide) hb)) (fun _ h566 => ih _ _ _ (BY_I (by decide) h566))) (Bf_no)
    | 7 =>
      refine Bf_eq (by rw [f_X3_leavePoint]) ?_
      exact Bf_ite (ih _ _ _ (BY_F (by decide) hb)) (Bf_no)
    | 8 =>
      refine Bf_eq (by rw [f_X3_leavePoint]) ?_
      exact Bf_ox (kb_f_X3_push _ _ _ _ hb) (fun _ h567 => ih _ _ _ h567)
    | b + 9 =>
      exact Bf_eq (by rw [f_X3_leavePoint]) Bf_no
theorem kb_f_X3_callsAndPoints {P : Prop} : ∀ (k b : Nat) (L : LV) (σ : CS), BY P σ → Bf P (f_X3_callsAndPoints k b L σ) := by
  intro k
  induction k with
  | zero => intro b L σ _; exact Bf_no
  | succ k ih =>
    intro b L σ hb
    match b with
    | 0 =>
      refine Bf_eq (by rw [f_X3_callsAndPoints]) ?_
      exact Bf_ite (ih _ _ _ hb) (Bf_ite (ih _ _ _ hb) (Bf_ite (ih _ _ _ hb) (Bf_ite (ih _ _ _ hb) (Bf_ite (ih _ _ _ hb) (Bf_ite (ih _ _ _ hb) (Bf_ite (ih _ _ _ hb) (Bf_ite (ih _ _ _ hb) (Bf_ite (ih _ _ _ hb) (ih _ _ _ hb)))))))))
    | 1 =>
      refine Bf_eq (by rw [f_X3_callsAndPoints]) ?_
      exact Bf_ox (kb_f_X3_pushAll _ _ _ _ hb) (fun _ h568 => ih _ _ _ h568)
    | 2 =>
      refine Bf_eq (by rw [f_X3_callsAndPoints]) ?_
      exact Bf_ox (kb_f_X3_callFunc _ _ _ _ hb) (fun _ h569 => ih _ _ _ h569)
    | 3 =>
      refine Bf_eq (by rw [f_X3_callsAndPoints]) ?_
      exact Bf_ox (kb_f_X3_endFunc _ _ _ _ hb) (fun _ h570 => ih _ _ _ h570)
    | 4 =>
      refine Bf_eq (by rw [f_X3_callsAndPoints]) ?_
      exact Bf_ox (kb_f_X3_callProc _ _ _ _ hb) (fun _ h571 => ih _ _ _ h571)
    | 5 =>
      refine Bf_eq (by rw [f_X3_callsAndPoints]) ?_
      exact Bf_op (kb_y_X3_endProc _ _ _ _ hb) (fun _ h572 => ih _ _ _ h572)
    | 6 =>
      refine Bf_eq (by rw [f_X3_callsAndPoints]) ?_
      exact Bf_ox (kb_f_X3_makePoint _ _ _ _ hb) (fun _ h573 => ih _ _ _ h573)
    | 7 =>
      refine Bf_eq (by rw [f_X3_callsAndPoints]) ?_
      exact Bf_ite (ih _ _ _ hb) (ih _ _ _ hb)
    | 8 =>
      refine Bf_eq (by rw [f_X3_callsAndPoints]) ?_
      exact Bf_op (kb_y_X3_pop _ _ _ _ hb) (fun _ h574 => Bf_op (kb_y_X3_wantTruth _ _ _ _ h574) (fun _ h575 => Bf_ite (ih _ _ _ h575) (Bf_ite (Bf_op (kb_y_X3_fail _ _ _ _ h575) (fun _ h576 => ih _ _ _ h576)) (ih _ _ _ h575))))
    | 9 =>
      refine Bf_eq (by rw [f_X3_callsAndPoints]) ?_
      exact Bf_so hb
    | 10 =>
      refine Bf_eq (by rw [f_X3_callsAndPoints]) ?_
      exact ih _ _ _ hb
    | 11 =>
      refine Bf_eq (by rw [f_X3_callsAndPoints]) ?_
      exact Bf_ox (kb_f_X3_leavePoint _ _ _ _ hb) (fun _ h577 => ih _ _ _ h577)
    | b + 12 =>
      exact Bf_eq (by rw [f_X3_callsAndPoints]) Bf_no
theorem kb_y_X1_makeCopy__A0 {P : Prop} : ∀ (k b : Nat) (L : LV) (σ : CS), BY P σ → By P (y_X1_makeCopy__A0 k b L σ) := by
  intro k
  induction k with
  | zero => intro b L σ _; exact By_no
  | succ k ih =>
    intro b L σ hb
    match b with
    | 0 =>
      refine By_eq (by rw [y_X1_makeCopy__A0]) ?_
      exact By_ite (ih _ _ _ hb) (By_so hb)
    | 1 =>
      refine By_eq (by rw [y_X1_makeCopy__A0]) ?_
      exact By_ite (By_so (BY_F (by decide) (BY_I (by decide) hb))) (By_no)
    | b + 2 =>
      exact By_eq (by rw [y_X1_makeCopy__A0]) By_no
theorem kb_f_X3_data {P : Prop} : ∀ (k b : Nat) (L : LV) (σ : CS), BY P σ → Bf P (f_X3_data k b L σ) := by
  intro k
  induction k with
  | zero => intro b L σ _; exact Bf_no
  | succ k ih =>
    intro b L σ hb
    match b with
    | 0 =>
      refine Bf_eq (by rw [f_X3_data]) ?_
      exact Bf_ite (ih _ _ _ hb) (Bf_ite (ih _ _ _ hb) (Bf_ite (ih _ _ _ hb) (Bf_ite (ih _ _ _ hb) (Bf_ite (ih _ _ _ hb) (Bf_ite (ih _ _ _ hb) (Bf_ite (ih _ _ _ hb) (Bf_ite (ih _ _ _ hb) (Bf_ite (ih _ _ _ hb) (Bf_ite (ih _ _ _ hb) (Bf_ite (ih _ _ _ hb) (ih _ _ _ hb)))))))))))
    | 1 =>
      refine Bf_eq (by rw [f_X3_data]) ?_
      exact Bf_oP (fun _ => Bf_ite (Bf_ox (kb_f_X3_push _ _ _ _ hb) (fun _ h578 => ih _ _ _ (BY_I (by decide) h578))) (Bf_no))
    | 2 =>
      refine Bf_eq (by rw [f_X3_data]) ?_
      exact Bf_oP (fun _ => Bf_ite (Bf_ox (kb_f_X3_give _ _ _ _ hb) (fun _ h579 => ih _ _ _ (BY_I (by decide) h579))) (Bf_no))
    | 3 =>
      refine Bf_eq (by rw [f_X3_data]) ?_
      exact Bf_oP (fun _ => Bf_op (kb_y_X1_makeCopy__A0 _ _ _ _ hb) (fun _ h580 => Bf_ox (kb_f_X3_give _ _ _ _ h580) (fun _ h581 => ih _ _ _ (BY_I (by decide) h581))))
    | 4 =>
      refine Bf_eq (by rw [f_X3_data]) ?_
      exact Bf_ite (Bf_ox (kb_f_X3_push _ _ _ _ hb) (fun _ h582 => ih _ _ _ h582)) (Bf_no)
    | 5 =>
      refine Bf_eq (by rw [f_X3_data]) ?_
      exact Bf_ite (Bf_ox (kb_f_X3_push _ _ _ _ hb) (fun _ h583 => ih _ _ _ h583)) (Bf_no)
    | 6 =>
      refine Bf_eq (by rw [f_X3_data]) ?_
      exact ih _ _ _ (BY_I (by decide) hb)
    | 7 =>
      refine Bf_eq (by rw [f_X3_data]) ?_
      exact Bf_ite (Bf_ox (kb_f_X3_push _ _ _ _ hb) (fun _ h584 => ih _ _ _ h584)) (Bf_no)
    | 8 =>
      refine Bf_eq (by rw [f_X3_data]) ?_
      exact Bf_ite (Bf_ite (Bf_ite (Bf_ite (ih _ _ _ (BY_A (by decide) (BY_A (by decide) hb))) (Bf_no)) (Bf_no)) (Bf_no)) (Bf_no)
    | 9 =>
      refine Bf_eq (by rw [f_X3_data]) ?_
      exact Bf_ite (Bf_op (kb_y_X1_size _ _ _ _ hb) (fun _ h585 => Bf_op (kb_y_X3_spend _ _ _ _ h585) (fun _ h586 => ih _ _ _ h586))) (Bf_no)
    | 10 =>
      refine Bf_eq (by rw [f_X3_data]) ?_
      exact Bf_ite (Bf_ox (kb_f_X3_push _ _ _ _ hb) (fun _ h587 => ih _ _ _ h587)) (Bf_no)
    | 11 =>
      refine Bf_eq (by rw [f_X3_data]) ?_
      exact Bf_ox (kb_f_X3_pushAll _ _ _ _ hb) (fun _ h588 => ih _ _ _ h588)
    | 12 =>
      refine Bf_eq (by rw [f_X3_data]) ?_
      exact Bf_so hb
    | b + 13 =>
      exact Bf_eq (by rw [f_X3_data]) Bf_no
theorem kb_f_X3_newAtom {P : Prop} : ∀ (k b : Nat) (L : LV) (σ : CS), BY P σ → Bf P (f_X3_newAtom k b L σ) := by
  intro k
  induction k with
  | zero => intro b L σ _; exact Bf_no
  | succ k ih =>
    intro b L σ hb
    match b with
    | 0 =>
      refine Bf_eq (by rw [f_X3_newAtom]) ?_
      exact Bf_ite (ih _ _ _ hb) (Bf_op (kb_y_X3_fail _ _ _ _ hb) (fun _ h589 => Bf_so h589))
    | 1 =>
      refine Bf_eq (by rw [f_X3_newAtom]) ?_
      exact Bf_ox (kb_f_X3_give _ _ _ _ (BY_I (by decide) hb)) (fun _ h590 => Bf_so h590)
    | b + 2 =>
      exact Bf_eq (by rw [f_X3_newAtom]) Bf_no
theorem kb_y_X0_insert__z20 {P : Prop} : ∀ (k b : Nat) (L : LV) (σ : CS), BY P σ → By P (y_X0_insert__z20 k b L σ) := by
  intro k
  induction k with
  | zero => intro b L σ _; exact By_no
  | succ k ih =>
    intro b L σ hb
    match b with
    | 0 =>
      refine By_eq (by rw [y_X0_insert__z20]) ?_
      exact By_ite (ih _ _ _ hb) (By_ite (By_oc (kb_y_X1_compare _ _ _ _ hb) (fun _ h591 => By_ite (ih _ _ _ h591) (ih _ _ _ h591))) (By_no))
    | 1 =>
      refine By_eq (by rw [y_X0_insert__z20]) ?_
      exact ih _ _ _ hb
    | 2 =>
      refine By_eq (by rw [y_X0_insert__z20]) ?_
      exact By_ite (ih _ _ _ hb) (By_ite (ih _ _ _ hb) (By_ite (By_oc (kb_y_X1_compare _ _ _ _ hb) (fun _ h592 => By_ite (ih _ _ _ h592) (ih _ _ _ h592))) (By_no)))
    | 3 =>
      refine By_eq (by rw [y_X0_insert__z20]) ?_
      exact By_ite (ih _ _ _ hb) (By_ite (By_oc (kb_y_X1_same _ _ _ _ hb) (fun _ h593 => By_ite (ih _ _ _ h593) (By_so h593))) (By_no))
    | 4 =>
      refine By_eq (by rw [y_X0_insert__z20]) ?_
      exact ih _ _ _ hb
    | 5 =>
      refine By_eq (by rw [y_X0_insert__z20]) ?_
      exact ih _ _ _ hb
    | 6 =>
      refine By_eq (by rw [y_X0_insert__z20]) ?_
      exact By_ite (By_ite (By_so (BY_A (by decide) (BY_F (by decide) hb))) (By_no)) (By_no)
    | b + 7 =>
      exact By_eq (by rw [y_X0_insert__z20]) By_no
theorem kb_y_X1_makeRow__z20 {P : Prop} : ∀ (k b : Nat) (L : LV) (σ : CS), BY P σ → By P (y_X1_makeRow__z20 k b L σ) := by
  intro k
  induction k with
  | zero => intro b L σ _; exact By_no
  | succ k ih =>
    intro b L σ hb
    match b with
    | 0 =>
      refine By_eq (by rw [y_X1_makeRow__z20]) ?_
      exact By_ite (ih _ _ _ hb) (By_ite (ih _ _ _ hb) (ih _ _ _ hb))
    | 1 =>
      refine By_eq (by rw [y_X1_makeRow__z20]) ?_
      exact By_ite (ih _ _ _ hb) (ih _ _ _ hb)
    | 2 =>
      refine By_eq (by rw [y_X1_makeRow__z20]) ?_
      exact ih _ _ _ hb
    | 3 =>
      refine By_eq (by rw [y_X1_makeRow__z20]) ?_
      exact By_so hb
    | 4 =>
      refine By_eq (by rw [y_X1_makeRow__z20]) ?_
      exact ih _ _ _ hb
    | 5 =>
      refine By_eq (by rw [y_X1_makeRow__z20]) ?_
      exact ih _ _ _ hb
    | 6 =>
      refine By_eq (by rw [y_X1_makeRow__z20]) ?_
      exact By_ite (ih _ _ _ hb) (By_ite (ih _ _ _ hb) (By_ite (By_ite (ih _ _ _ hb) (By_ite (By_ite (ih _ _ _ hb) (ih _ _ _ hb)) (By_no))) (By_no)))
    | 7 =>
      refine By_eq (by rw [y_X1_makeRow__z20]) ?_
      exact By_ite (ih _ _ _ hb) (By_ite (ih _ _ _ hb) (ih _ _ _ hb))
    | 8 =>
      refine By_eq (by rw [y_X1_makeRow__z20]) ?_
      exact By_ite (ih _ _ _ hb) (By_ite (By_ite (ih _ _ _ hb) (ih _ _ _ hb)) (ih _ _ _ hb))
    | 9 =>
      refine By_eq (by rw [y_X1_makeRow__z20]) ?_
      exact ih _ _ _ hb
    | 10 =>
      refine By_eq (by rw [y_X1_makeRow__z20]) ?_
      exact By_ite (ih _ _ _ hb) (By_ite (ih _ _ _ hb) (ih _ _ _ hb))
    | 11 =>
      refine By_eq (by rw [y_X1_makeRow__z20]) ?_
      exact By_so hb
    | 12 =>
      refine By_eq (by rw [y_X1_makeRow__z20]) ?_
      exact By_ite (ih _ _ _ hb) (By_so hb)
    | 13 =>
      refine By_eq (by rw [y_X1_makeRow__z20]) ?_
      exact ih _ _ _ hb
    | 14 =>
      refine By_eq (by rw [y_X1_makeRow__z20]) ?_
      exact ih _ _ _ hb
    | 15 =>
      refine By_eq (by rw [y_X1_makeRow__z20]) ?_
      exact ih _ _ _ hb
    | 16 =>
      refine By_eq (by rw [y_X1_makeRow__z20]) ?_
      exact ih _ _ _ hb
    | 17 =>
      refine By_eq (by rw [y_X1_makeRow__z20]) ?_
      exact By_ite (ih _ _ _ (BY_I (by decide) hb)) (ih _ _ _ (BY_I (by decide) hb))
    | 18 =>
      refine By_eq (by rw [y_X1_makeRow__z20]) ?_
      exact ih _ _ _ hb
    | 19 =>
      refine By_eq (by rw [y_X1_makeRow__z20]) ?_
      exact ih _ _ _ hb
    | 20 =>
      refine By_eq (by rw [y_X1_makeRow__z20]) ?_
      exact ih _ _ _ hb
    | 21 =>
      refine By_eq (by rw [y_X1_makeRow__z20]) ?_
      exact By_ite (By_ite (By_so (BY_F (by decide) (BY_A (by decide) hb))) (By_no)) (By_no)
    | b + 22 =>
      exact By_eq (by rw [y_X1_makeRow__z20]) By_no
theorem kb_y_X0_setOf__z20 {P : Prop} : ∀ (k b : Nat) (L : LV) (σ : CS), BY P σ → By P (y_X0_setOf__z20 k b L σ) := by
  intro k
  induction k with
  | zero => intro b L σ _; exact By_no
  | succ k ih =>
    intro b L σ hb
    match b with
    | 0 =>
      refine By_eq (by rw [y_X0_setOf__z20]) ?_
      exact ih _ _ _ hb
    | 1 =>
      refine By_eq (by rw [y_X0_setOf__z20]) ?_
      exact By_ite (ih _ _ _ hb) (By_ite (By_ite (By_so hb) (ih _ _ _ hb)) (By_no))
    | 2 =>
      refine By_eq (by rw [y_X0_setOf__z20]) ?_
      exact ih _ _ _ hb
    | 3 =>
      refine By_eq (by rw [y_X0_setOf__z20]) ?_
      exact ih _ _ _ hb
    | 4 =>
      refine By_eq (by rw [y_X0_setOf__z20]) ?_
      exact By_ite (ih _ _ _ hb) (By_ite (By_oc (kb_y_X0_insert__z20 _ _ _ _ hb) (fun _ h594 => By_ite (ih _ _ _ h594) (By_oc (kb_y_X1_size _ _ _ _ h594) (fun _ h595 => By_ite (ih _ _ _ h595) (By_so h595))))) (By_no))
    | 5 =>
      refine By_eq (by rw [y_X0_setOf__z20]) ?_
      exact By_oc (kb_y_X1_makeRow__z20 _ _ _ _ hb) (fun _ h596 => By_so h596)
    | 6 =>
      refine By_eq (by rw [y_X0_setOf__z20]) ?_
      exact ih _ _ _ hb
    | b + 7 =>
      exact By_eq (by rw [y_X0_setOf__z20]) By_no
theorem kb_y_X1_makeTuple__z20 {P : Prop} : ∀ (k b : Nat) (L : LV) (σ : CS), BY P σ → By P (y_X1_makeTuple__z20 k b L σ) := by
  intro k
  induction k with
  | zero => intro b L σ _; exact By_no
  | succ k ih =>
    intro b L σ hb
    match b with
    | 0 =>
      refine By_eq (by rw [y_X1_makeTuple__z20]) ?_
      exact ih _ _ _ hb
    | 1 =>
      refine By_eq (by rw [y_X1_makeTuple__z20]) ?_
      exact By_ite (ih _ _ _ hb) (By_ite (By_ite (ih _ _ _ hb) (ih _ _ _ hb)) (By_no))
    | 2 =>
      refine By_eq (by rw [y_X1_makeTuple__z20]) ?_
      exact By_oc (kb_y_X1_makeRow__z20 _ _ _ _ hb) (fun _ h597 => By_so h597)
    | b + 3 =>
      exact By_eq (by rw [y_X1_makeTuple__z20]) By_no
theorem kb_f_X3_makeValue {P : Prop} : ∀ (k b : Nat) (L : LV) (σ : CS), BY P σ → Bf P (f_X3_makeValue k b L σ) := by
  intro k
  induction k with
  | zero => intro b L σ _; exact Bf_no
  | succ k ih =>
    intro b L σ hb
    match b with
    | 0 =>
      refine Bf_eq (by rw [f_X3_makeValue]) ?_
      exact Bf_ite (ih _ _ _ hb) (Bf_ite (ih _ _ _ hb) (Bf_ite (ih _ _ _ hb) (Bf_ite (ih _ _ _ hb) (Bf_ite (ih _ _ _ hb) (Bf_ite (ih _ _ _ hb) (Bf_ite (ih _ _ _ hb) (ih _ _ _ hb)))))))
    | 1 =>
      refine Bf_eq (by rw [f_X3_makeValue]) ?_
      exact Bf_op (kb_y_X0_setOf__z20 _ _ _ _ (BY_I (by decide) hb)) (fun _ h598 => Bf_ox (kb_f_X3_give _ _ _ _ h598) (fun _ h599 => ih _ _ _ h599))
    | 2 =>
      refine Bf_eq (by rw [f_X3_makeValue]) ?_
      exact Bf_op (kb_y_X1_makeTuple__z20 _ _ _ _ (BY_I (by decide) hb)) (fun _ h600 => Bf_ox (kb_f_X3_give _ _ _ _ h600) (fun _ h601 => ih _ _ _ h601))
    | 3 =>
      refine Bf_eq (by rw [f_X3_makeValue]) ?_
      exact Bf_ite (Bf_ite (Bf_ite (ih _ _ _ (BY_I (by decide) hb)) (ih _ _ _ (BY_I (by decide) hb))) (Bf_no)) (Bf_no)
    | 4 =>
      refine Bf_eq (by rw [f_X3_makeValue]) ?_
      exact Bf_ite (Bf_ite (ih _ _ _ (BY_I (by decide) hb)) (ih _ _ _ (BY_I (by decide) hb))) (Bf_no)
    | 5 =>
      refine Bf_eq (by rw [f_X3_makeValue]) ?_
      exact Bf_ox (kb_f_X3_newAtom _ _ _ _ hb) (fun _ h602 => ih _ _ _ h602)
    | 6 =>
      refine Bf_eq (by rw [f_X3_makeValue]) ?_
      exact Bf_ite (Bf_op (kb_y_X3_drawn _ _ _ _ hb) (fun _ h603 => Bf_op (kb_y_X3_replace _ _ _ _ h603) (fun _ h604 => ih _ _ _ h604))) (Bf_no)
    | 7 =>
      refine Bf_eq (by rw [f_X3_makeValue]) ?_
      exact Bf_so hb
    | 8 =>
      refine Bf_eq (by rw [f_X3_makeValue]) ?_
      exact ih _ _ _ hb
    | 9 =>
      refine Bf_eq (by rw [f_X3_makeValue]) ?_
      exact Bf_op (kb_y_X0_progression _ _ _ _ hb) (fun _ h605 => Bf_op (kb_y_X3_replace _ _ _ _ h605) (fun _ h606 => ih _ _ _ h606))
    | 10 =>
      refine Bf_eq (by rw [f_X3_makeValue]) ?_
      exact Bf_ite (Bf_ite (Bf_ite (ih _ _ _ hb) (ih _ _ _ hb)) (Bf_no)) (Bf_no)
    | 11 =>
      refine Bf_eq (by rw [f_X3_makeValue]) ?_
      exact Bf_op (kb_y_X3_replace _ _ _ _ hb) (fun _ h607 => ih _ _ _ h607)
    | 12 =>
      refine Bf_eq (by rw [f_X3_makeValue]) ?_
      exact ih _ _ _ hb
    | 13 =>
      refine Bf_eq (by rw [f_X3_makeValue]) ?_
      exact Bf_op (kb_y_X0_progression _ _ _ _ hb) (fun _ h608 => ih _ _ _ h608)
    | b + 14 =>
      exact Bf_eq (by rw [f_X3_makeValue]) Bf_no
theorem kb_y_X3_goOver__z20 {P : Prop} : ∀ (k b : Nat) (L : LV) (σ : CS), BY P σ → By P (y_X3_goOver__z20 k b L σ) := by
  intro k
  induction k with
  | zero => intro b L σ _; exact By_no
  | succ k ih =>
    intro b L σ hb
    match b with
    | 0 =>
      refine By_eq (by rw [y_X3_goOver__z20]) ?_
      exact By_oc (kb_y_X3_pop _ _ _ _ hb) (fun _ h609 => By_oc (kb_y_X1_kind _ _ _ _ h609) (fun _ h610 => By_ite (ih _ _ _ h610) (By_oc (kb_y_X3_fail _ _ _ _ h610) (fun _ h611 => By_so h611))))
    | 1 =>
      refine By_eq (by rw [y_X3_goOver__z20]) ?_
      exact By_ite (ih _ _ _ hb) (By_oc (kb_y_X1_size _ _ _ _ hb) (fun _ h612 => By_ite (ih _ _ _ h612) (By_oc (kb_y_X3_fail _ _ _ _ h612) (fun _ h613 => By_so h613))))
    | 2 =>
      refine By_eq (by rw [y_X3_goOver__z20]) ?_
      exact By_ite (By_oc (kb_y_X11_raw _ _ _ _ (BY_A (by decide) hb)) (fun _ h614 => By_ite (ih _ _ _ (BY_A (by decide) h614)) (By_no))) (By_no)
    | 3 =>
      refine By_eq (by rw [y_X3_goOver__z20]) ?_
      exact ih _ _ _ (BY_I (by decide) (BY_I (by decide) hb))
    | 4 =>
      refine By_eq (by rw [y_X3_goOver__z20]) ?_
      exact By_so hb
    | b + 5 =>
      exact By_eq (by rw [y_X3_goOver__z20]) By_no
theorem kb_f_X3_nextMember__z20 {P : Prop} : ∀ (k b : Nat) (L : LV) (σ : CS), BY P σ → Bf P (f_X3_nextMember__z20 k b L σ) := by
  intro k
  induction k with
  | zero => intro b L σ _; exact Bf_no
  | succ k ih =>
    intro b L σ hb
    match b with
    | 0 =>
      refine Bf_eq (by rw [f_X3_nextMember__z20]) ?_
      exact Bf_ite (Bf_ite (Bf_op (kb_y_X11_unraw _ _ _ _ hb) (fun _ h615 => Bf_op (kb_y_X1_length _ _ _ _ h615) (fun _ h616 => Bf_ite (ih _ _ _ h616) (Bf_op (kb_y_X3_letGo__z20 _ _ _ _ h616) (fun _ h617 => Bf_oP (fun _ => Bf_ite (Bf_so (BY_I (by decide) h617)) (Bf_no))))))) (Bf_no)) (Bf_no)
    | 1 =>
      refine Bf_eq (by rw [f_X3_nextMember__z20]) ?_
      exact Bf_op (kb_y_X11_raw _ _ _ _ hb) (fun _ h618 => Bf_ite (Bf_op (kb_y_X1_taken _ _ _ _ (BY_A (by decide) h618)) (fun _ h619 => Bf_ox (kb_f_X3_push _ _ _ _ h619) (fun _ h620 => ih _ _ _ (BY_I (by decide) h620)))) (Bf_no))
    | 2 =>
      refine Bf_eq (by rw [f_X3_nextMember__z20]) ?_
      exact Bf_op (kb_y_X3_spend _ _ _ _ hb) (fun _ h621 => Bf_so h621)
    | b + 3 =>
      exact Bf_eq (by rw [f_X3_nextMember__z20]) Bf_no
theorem kb_y_X3_spread__z20 {P : Prop} : ∀ (k b : Nat) (L : LV) (σ : CS), BY P σ → By P (y_X3_spread__z20 k b L σ) := by
  intro k
  induction k with
  | zero => intro b L σ _; exact By_no
  | succ k ih =>
    intro b L σ hb
    match b with
    | 0 =>
      refine By_eq (by rw [y_X3_spread__z20]) ?_
      exact By_oc (kb_y_X3_pop _ _ _ _ hb) (fun _ h622 => By_oc (kb_y_X1_kind _ _ _ _ h622) (fun _ h623 => By_ite (By_oc (kb_y_X1_length _ _ _ _ h623) (fun _ h624 => By_ite (ih _ _ _ h624) (ih _ _ _ h624))) (ih _ _ _ h623)))
    | 1 =>
      refine By_eq (by rw [y_X3_spread__z20]) ?_
      exact By_oc (kb_y_X3_fail _ _ _ _ hb) (fun _ h625 => By_so h625)
    | 2 =>
      refine By_eq (by rw [y_X3_spread__z20]) ?_
      exact ih _ _ _ hb
    | 3 =>
      refine By_eq (by rw [y_X3_spread__z20]) ?_
      exact By_ite (ih _ _ _ hb) (By_ite (By_ite (ih _ _ _ hb) (By_oc (kb_y_X1_member _ _ _ _ hb) (fun _ h626 => By_oc (kb_y_X3_assign _ _ _ _ h626) (fun _ h627 => ih _ _ _ h627)))) (ih _ _ _ hb))
    | 4 =>
      refine By_eq (by rw [y_X3_spread__z20]) ?_
      exact By_so hb
    | 5 =>
      refine By_eq (by rw [y_X3_spread__z20]) ?_
      exact By_oc (kb_y_X1_member _ _ _ _ hb) (fun _ h628 => By_ite (ih _ _ _ (BY_A (by decide) h628)) (By_no))
    | 6 =>
      refine By_eq (by rw [y_X3_spread__z20]) ?_
      exact ih _ _ _ hb
    | b + 7 =>
      exact By_eq (by rw [y_X3_spread__z20]) By_no
theorem kb_y_X3_goOver__a23 {P : Prop} : ∀ (k b : Nat) (L : LV) (σ : CS), BY P σ → By P (y_X3_goOver__a23 k b L σ) := by
  intro k
  induction k with
  | zero => intro b L σ _; exact By_no
  | succ k ih =>
    intro b L σ hb
    match b with
    | 0 =>
      refine By_eq (by rw [y_X3_goOver__a23]) ?_
      exact By_oc (kb_y_X3_pop _ _ _ _ hb) (fun _ h629 => By_oc (kb_y_X1_kind _ _ _ _ h629) (fun _ h630 => By_ite (ih _ _ _ h630) (By_oc (kb_y_X3_fail _ _ _ _ h630) (fun _ h631 => By_so h631))))
    | 1 =>
      refine By_eq (by rw [y_X3_goOver__a23]) ?_
      exact By_ite (ih _ _ _ hb) (By_oc (kb_y_X1_size _ _ _ _ hb) (fun _ h632 => By_ite (ih _ _ _ h632) (By_oc (kb_y_X3_fail _ _ _ _ h632) (fun _ h633 => By_so h633))))
    | 2 =>
      refine By_eq (by rw [y_X3_goOver__a23]) ?_
      exact By_ite (By_oc (kb_y_X11_raw _ _ _ _ (BY_A (by decide) hb)) (fun _ h634 => By_ite (ih _ _ _ (BY_A (by decide) h634)) (By_no))) (By_no)
    | 3 =>
      refine By_eq (by rw [y_X3_goOver__a23]) ?_
      exact ih _ _ _ (BY_I (by decide) (BY_I (by decide) hb))
    | 4 =>
      refine By_eq (by rw [y_X3_goOver__a23]) ?_
      exact By_so hb
    | b + 5 =>
      exact By_eq (by rw [y_X3_goOver__a23]) By_no
theorem kb_y_X3_letGo__a23 {P : Prop} : ∀ (k b : Nat) (L : LV) (σ : CS), BY P σ → By P (y_X3_letGo__a23 k b L σ) := by
  intro k
  induction k with
  | zero => intro b L σ _; exact By_no
  | succ k ih =>
    intro b L σ hb
    match b with
    | 0 =>
      refine By_eq (by rw [y_X3_letGo__a23]) ?_
      exact By_ite (ih _ _ _ hb) (By_ite (By_ite (ih _ _ _ hb) (By_ite (By_oc (kb_y_X1_size _ _ _ _ hb) (fun _ h635 => ih _ _ _ (BY_I (by decide) (BY_I (by decide) h635)))) (By_no))) (By_no))
    | 1 =>
      refine By_eq (by rw [y_X3_letGo__a23]) ?_
      exact By_ite (By_ite (By_so (BY_A (by decide) (BY_A (by decide) hb))) (By_no)) (By_no)
    | b + 2 =>
      exact By_eq (by rw [y_X3_letGo__a23]) By_no
theorem kb_f_X3_nextMember__a23 {P : Prop} : ∀ (k b : Nat) (L : LV) (σ : CS), BY P σ → Bf P (f_X3_nextMember__a23 k b L σ) := by
  intro k
  induction k with
  | zero => intro b L σ _; exact Bf_no
  | succ k ih =>
    intro b L σ hb
    match b with
    | 0 =>
      refine Bf_eq (by rw [f_X3_nextMember__a23]) ?_
      exact Bf_ite (Bf_ite (Bf_op (kb_y_X11_unraw _ _ _ _ hb) (fun _ h636 => Bf_op (kb_y_X1_length _ _ _ _ h636) (fun _ h637 => Bf_ite (ih _ _ _ h637) (Bf_op (kb_y_X3_letGo__a23 _ _ _ _ h637) (fun _ h638 => Bf_oP (fun _ => Bf_ite (Bf_so (BY_I (by decide) h638)) (Bf_no))))))) (Bf_no)) (Bf_no)
    | 1 =>
      refine Bf_eq (by rw [f_X3_nextMember__a23]) ?_
      exact Bf_op (kb_y_X11_raw _ _ _ _ hb) (fun _ h639 => Bf_ite (Bf_op (kb_y_X1_taken _ _ _ _ (BY_A (by decide) h639)) (fun _ h640 => Bf_ox (kb_f_X3_push _ _ _ _ h640) (fun _ h641 => ih _ _ _ (BY_I (by decide) h641)))) (Bf_no))
    | 2 =>
      refine Bf_eq (by rw [f_X3_nextMember__a23]) ?_
      exact Bf_op (kb_y_X3_spend _ _ _ _ hb) (fun _ h642 => Bf_so h642)
    | b + 3 =>
      exact Bf_eq (by rw [f_X3_nextMember__a23]) Bf_no
theorem kb_y_X3_spread__a23 {P : Prop} : ∀ (k b : Nat) (L : LV) (σ : CS), BY P σ → By P (y_X3_spread__a23 k b L σ) := by
  intro k
  induction k with
  | zero => intro b L σ _; exact By_no
  | succ k ih =>
    intro b L σ hb
    match b with
    | 0 =>
      refine By_eq (by rw [y_X3_spread__a23]) ?_
      exact By_oc (kb_y_X3_pop _ _ _ _ hb) (fun _ h643 => By_oc (kb_y_X1_kind _ _ _ _ h643) (fun _ h644 => By_ite (By_oc (kb_y_X1_length _ _ _ _ h644) (fun _ h645 => By_ite (ih _ _ _ h645) (ih _ _ _ h645))) (ih _ _ _ h644)))
    | 1 =>
      refine By_eq (by rw [y_X3_spread__a23]) ?_
      exact By_oc (kb_y_X3_fail _ _ _ _ hb) (fun _ h646 => By_so h646)
    | 2 =>
      refine By_eq (by rw [y_X3_spread__a23]) ?_
      exact ih _ _ _ hb
    | 3 =>
      refine By_eq (by rw [y_X3_spread__a23]) ?_
      exact By_ite (ih _ _ _ hb) (By_ite (By_ite (ih _ _ _ hb) (By_oc (kb_y_X1_member _ _ _ _ hb) (fun _ h647 => By_oc (kb_y_X3_assign _ _ _ _ h647) (fun _ h648 => ih _ _ _ h648)))) (ih _ _ _ hb))
    | 4 =>
      refine By_eq (by rw [y_X3_spread__a23]) ?_
      exact By_so hb
    | 5 =>
      refine By_eq (by rw [y_X3_spread__a23]) ?_
      exact By_oc (kb_y_X1_member _ _ _ _ hb) (fun _ h649 => By_ite (ih _ _ _ (BY_A (by decide) h649)) (By_no))
    | 6 =>
      refine By_eq (by rw [y_X3_spread__a23]) ?_
      exact ih _ _ _ hb
    | b + 7 =>
      exact By_eq (by rw [y_X3_spread__a23]) By_no
theorem kb_f_X3_iterate {P : Prop} : ∀ (k b : Nat) (L : LV) (σ : CS), BY P σ → Bf P (f_X3_iterate k b L σ) := by
  intro k
  induction k with
  | zero => intro b L σ _; exact Bf_no
  | succ k ih =>
    intro b L σ hb
    match b with
    | 0 =>
      refine Bf_eq (by rw [f_X3_iterate]) ?_
      exact Bf_ite (ih _ _ _ hb) (ih _ _ _ hb)
    | 1 =>
      refine Bf_eq (by rw [f_X3_iterate]) ?_
      exact ih _ _ _ hb
    | 2 =>
      refine Bf_eq (by rw [f_X3_iterate]) ?_
      exact Bf_ite (ih _ _ _ hb) (ih _ _ _ hb)
    | 3 =>
      refine Bf_eq (by rw [f_X3_iterate]) ?_
      exact ih _ _ _ hb
    | 4 =>
      refine Bf_eq (by rw [f_X3_iterate]) ?_
      exact Bf_ite (ih _ _ _ hb) (ih _ _ _ hb)
    | 5 =>
      refine Bf_eq (by rw [f_X3_iterate]) ?_
      exact Bf_ite (ih _ _ _ hb) (ih _ _ _ hb)
    | 6 =>
      refine Bf_eq (by rw [f_X3_iterate]) ?_
      exact ih _ _ _ hb
    | 7 =>
      refine Bf_eq (by rw [f_X3_iterate]) ?_
      exact Bf_ite (ih _ _ _ hb) (Bf_ite (ih _ _ _ hb) (Bf_ite (ih _ _ _ hb) (Bf_ite (ih _ _ _ hb) (Bf_ite (ih _ _ _ hb) (Bf_ite (ih _ _ _ hb) (Bf_ite (ih _ _ _ hb) (Bf_ite (ih _ _ _ hb) (Bf_ite (ih _ _ _ hb) (ih _ _ _ hb)))))))))
    | 8 =>
      refine Bf_eq (by rw [f_X3_iterate]) ?_
      exact ih _ _ _ hb
    | 9 =>
      refine Bf_eq (by rw [f_X3_iterate]) ?_
      exact Bf_ite (ih _ _ _ hb) (Bf_ite (ih _ _ _ hb) (Bf_ite (ih _ _ _ hb) (Bf_ite (ih _ _ _ hb) (Bf_ite (ih _ _ _ hb) (Bf_ite (ih _ _ _ hb) (Bf_ite (ih _ _ _ hb) (Bf_ite (ih _ _ _ hb) (Bf_ite (ih _ _ _ hb) (ih _ _ _ hb)))))))))
    | 10 =>
      refine Bf_eq (by rw [f_X3_iterate]) ?_
      exact Bf_op (kb_y_X3_goOver__z20 _ _ _ _ hb) (fun _ h650 => ih _ _ _ h650)
    | 11 =>
      refine Bf_eq (by rw [f_X3_iterate]) ?_
      exact Bf_ox (kb_f_X3_nextMember__z20 _ _ _ _ hb) (fun _ h651 => ih _ _ _ h651)
    | 12 =>
      refine Bf_eq (by rw [f_X3_iterate]) ?_
      exact Bf_op (kb_y_X3_pop _ _ _ _ hb) (fun _ h652 => Bf_ite (ih _ _ _ (BY_A (by decide) h652)) (Bf_no))
    | 13 =>
      refine Bf_eq (by rw [f_X3_iterate]) ?_
      exact Bf_oP (fun _ => Bf_ite (Bf_op (kb_y_X3_spread__z20 _ _ _ _ hb) (fun _ h653 => ih _ _ _ (BY_I (by decide) h653))) (Bf_no))
    | 14 =>
      refine Bf_eq (by rw [f_X3_iterate]) ?_
      exact Bf_oP (fun _ => Bf_ite (ih _ _ _ hb) (Bf_no))
    | 15 =>
      refine Bf_eq (by rw [f_X3_iterate]) ?_
      exact Bf_op (kb_y_X3_pop _ _ _ _ hb) (fun _ h654 => Bf_op (kb_y_X3_assign _ _ _ _ h654) (fun _ h655 => ih _ _ _ h655))
    | 16 =>
      refine Bf_eq (by rw [f_X3_iterate]) ?_
      exact Bf_oP (fun _ => Bf_ite (Bf_oP (fun _ => Bf_ite (Bf_op (kb_y_X3_clearFor _ _ _ _ hb) (fun _ h656 => ih _ _ _ (BY_I (by decide) h656))) (Bf_no))) (Bf_no))
    | 17 =>
      refine Bf_eq (by rw [f_X3_iterate]) ?_
      exact Bf_op (kb_y_X3_goOver__a23 _ _ _ _ hb) (fun _ h657 => ih _ _ _ h657)
    | 18 =>
      refine Bf_eq (by rw [f_X3_iterate]) ?_
      exact Bf_ox (kb_f_X3_nextMember__a23 _ _ _ _ hb) (fun _ h658 => ih _ _ _ h658)
    | 19 =>
      refine Bf_eq (by rw [f_X3_iterate]) ?_
      exact Bf_op (kb_y_X3_pop _ _ _ _ hb) (fun _ h659 => Bf_ite (ih _ _ _ (BY_A (by decide) h659)) (Bf_no))
    | 20 =>
      refine Bf_eq (by rw [f_X3_iterate]) ?_
      exact Bf_oP (fun _ => Bf_ite (Bf_op (kb_y_X3_spread__a23 _ _ _ _ hb) (fun _ h660 => ih _ _ _ (BY_I (by decide) h660))) (Bf_no))
    | 21 =>
      refine Bf_eq (by rw [f_X3_iterate]) ?_
      exact Bf_oP (fun _ => Bf_ite (ih _ _ _ hb) (Bf_no))
    | 22 =>
      refine Bf_eq (by rw [f_X3_iterate]) ?_
      exact Bf_so hb
    | 23 =>
      refine Bf_eq (by rw [f_X3_iterate]) ?_
      exact Bf_ite (ih _ _ _ hb) (Bf_ite (ih _ _ _ (BY_A (by decide) hb)) (Bf_no))
    | 24 =>
      refine Bf_eq (by rw [f_X3_iterate]) ?_
      exact Bf_ite (ih _ _ _ hb) (Bf_ite (ih _ _ _ (BY_A (by decide) hb)) (Bf_no))
    | 25 =>
      refine Bf_eq (by rw [f_X3_iterate]) ?_
      exact ih _ _ _ (BY_I (by decide) hb)
    | b + 26 =>
      exact Bf_eq (by rw [f_X3_iterate]) Bf_no
theorem kb_f_X3_joinSet {P : Prop} : ∀ (k b : Nat) (L : LV) (σ : CS), BY P σ → Bf P (f_X3_joinSet k b L σ) := by
  intro k
  induction k with
  | zero => intro b L σ _; exact Bf_no
  | succ k ih =>
    intro b L σ hb
    match b with
    | 0 =>
      refine Bf_eq (by rw [f_X3_joinSet]) ?_
      exact ih _ _ _ hb
    | 1 =>
      refine Bf_eq (by rw [f_X3_joinSet]) ?_
      exact Bf_ite (ih _ _ _ hb) (Bf_ite (Bf_ite (Bf_ite (ih _ _ _ hb) (ih _ _ _ hb)) (ih _ _ _ hb)) (Bf_no))
    | 2 =>
      refine Bf_eq (by rw [f_X3_joinSet]) ?_
      exact Bf_ite (ih _ _ _ hb) (ih _ _ _ hb)
    | 3 =>
      refine Bf_eq (by rw [f_X3_joinSet]) ?_
      exact ih _ _ _ hb
    | 4 =>
      refine Bf_eq (by rw [f_X3_joinSet]) ?_
      exact ih _ _ _ hb
    | 5 =>
      refine Bf_eq (by rw [f_X3_joinSet]) ?_
      exact Bf_ite (ih _ _ _ hb) (Bf_no)
    | 6 =>
      refine Bf_eq (by rw [f_X3_joinSet]) ?_
      exact Bf_ite (Bf_op (kb_y_X11_raw _ _ _ _ (BY_I (by decide) (BY_A (by decide) hb))) (fun _ h661 => ih _ _ _ h661)) (Bf_no)
    | 7 =>
      refine Bf_eq (by rw [f_X3_joinSet]) ?_
      exact Bf_ite (ih _ _ _ hb) (Bf_op (kb_y_X0_insert__z20 _ _ _ _ hb) (fun _ h662 => Bf_ite (ih _ _ _ h662) (Bf_op (kb_y_X1_size _ _ _ _ h662) (fun _ h663 => ih _ _ _ h663))))
    | 8 =>
      refine Bf_eq (by rw [f_X3_joinSet]) ?_
      exact Bf_ox (kb_f_X3_push _ _ _ _ hb) (fun _ h664 => Bf_ite (ih _ _ _ h664) (ih _ _ _ h664))
    | 9 =>
      refine Bf_eq (by rw [f_X3_joinSet]) ?_
      exact ih _ _ _ hb
    | 10 =>
      refine Bf_eq (by rw [f_X3_joinSet]) ?_
      exact ih _ _ _ hb
    | 11 =>
      refine Bf_eq (by rw [f_X3_joinSet]) ?_
      exact Bf_op (kb_y_X11_raw _ _ _ _ hb) (fun _ h665 => Bf_ox (kb_f_X3_push _ _ _ _ h665) (fun _ h666 => Bf_so h666))
    | b + 12 =>
      exact Bf_eq (by rw [f_X3_joinSet]) Bf_no
theorem kb_f_X3_joinTuple {P : Prop} : ∀ (k b : Nat) (L : LV) (σ : CS), BY P σ → Bf P (f_X3_joinTuple k b L σ) := by
  intro k
  induction k with
  | zero => intro b L σ _; exact Bf_no
  | succ k ih =>
    intro b L σ hb
    match b with
    | 0 =>
      refine Bf_eq (by rw [f_X3_joinTuple]) ?_
      exact ih _ _ _ hb
    | 1 =>
      refine Bf_eq (by rw [f_X3_joinTuple]) ?_
      exact Bf_ite (ih _ _ _ hb) (Bf_ite (Bf_op (kb_y_X1_size _ _ _ _ hb) (fun _ h667 => Bf_ite (Bf_ite (Bf_ite (ih _ _ _ h667) (Bf_ite (ih _ _ _ h667) (ih _ _ _ h667))) (Bf_no)) (ih _ _ _ h667))) (Bf_no))
    | 2 =>
      refine Bf_eq (by rw [f_X3_joinTuple]) ?_
      exact Bf_op (kb_y_X11_raw _ _ _ _ hb) (fun _ h668 => Bf_ox (kb_f_X3_push _ _ _ _ h668) (fun _ h669 => Bf_ite (ih _ _ _ h669) (ih _ _ _ h669)))
    | 3 =>
      refine Bf_eq (by rw [f_X3_joinTuple]) ?_
      exact ih _ _ _ hb
    | 4 =>
      refine Bf_eq (by rw [f_X3_joinTuple]) ?_
      exact ih _ _ _ hb
    | 5 =>
      refine Bf_eq (by rw [f_X3_joinTuple]) ?_
      exact ih _ _ _ hb
    | 6 =>
      refine Bf_eq (by rw [f_X3_joinTuple]) ?_
      exact Bf_op (kb_y_X11_raw _ _ _ _ hb) (fun _ h670 => Bf_ox (kb_f_X3_push _ _ _ _ h670) (fun _ h671 => Bf_so h671))
    | 7 =>
      refine Bf_eq (by rw [f_X3_joinTuple]) ?_
      exact ih _ _ _ hb
    | b + 8 =>
      exact Bf_eq (by rw [f_X3_joinTuple]) Bf_no
theorem kb_f_X3_gatherIntoSet {P : Prop} : ∀ (k b : Nat) (L : LV) (σ : CS), BY P σ → Bf P (f_X3_gatherIntoSet k b L σ) := by
  intro k
  induction k with
  | zero => intro b L σ _; exact Bf_no
  | succ k ih =>
    intro b L σ hb
    match b with
    | 0 =>
      refine Bf_eq (by rw [f_X3_gatherIntoSet]) ?_
      exact Bf_ite (Bf_op (kb_y_X11_unraw _ _ _ _ hb) (fun _ h672 => Bf_ite (Bf_op (kb_y_X11_unraw _ _ _ _ h672) (fun _ h673 => Bf_ite (Bf_ite (Bf_op (kb_y_X3_fail _ _ _ _ h673) (fun _ h674 => Bf_so h674)) (ih _ _ _ h673)) (ih _ _ _ h673))) (Bf_no))) (Bf_no)
    | 1 =>
      refine Bf_eq (by rw [f_X3_gatherIntoSet]) ?_
      exact Bf_ite (ih _ _ _ hb) (Bf_ite (ih _ _ _ hb) (ih _ _ _ hb))
    | 2 =>
      refine Bf_eq (by rw [f_X3_gatherIntoSet]) ?_
      exact Bf_ox (kb_f_X3_push _ _ _ _ hb) (fun _ h675 => Bf_op (kb_y_X0_insert__z20 _ _ _ _ (BY_I (by decide) h675)) (fun _ h676 => Bf_ite (ih _ _ _ h676) (Bf_op (kb_y_X11_raw _ _ _ _ (BY_I (by decide) h676)) (fun _ h677 => ih _ _ _ h677))))
    | 3 =>
      refine Bf_eq (by rw [f_X3_gatherIntoSet]) ?_
      exact Bf_ite (ih _ _ _ hb) (Bf_no)
    | 4 =>
      refine Bf_eq (by rw [f_X3_gatherIntoSet]) ?_
      exact Bf_ite (Bf_so (BY_A (by decide) hb)) (Bf_no)
    | 5 =>
      refine Bf_eq (by rw [f_X3_gatherIntoSet]) ?_
      exact Bf_so hb
    | 6 =>
      refine Bf_eq (by rw [f_X3_gatherIntoSet]) ?_
      exact Bf_ite (Bf_op (kb_y_X1_size _ _ _ _ (BY_A (by decide) hb)) (fun _ h678 => Bf_ite (ih _ _ _ h678) (ih _ _ _ h678))) (Bf_no)
    | 7 =>
      refine Bf_eq (by rw [f_X3_gatherIntoSet]) ?_
      exact Bf_op (kb_y_X1_size _ _ _ _ hb) (fun _ h679 => ih _ _ _ h679)
    | 8 =>
      refine Bf_eq (by rw [f_X3_gatherIntoSet]) ?_
      exact Bf_op (kb_y_X11_raw _ _ _ _ hb) (fun _ h680 => Bf_ite (ih _ _ _ (BY_A (by decide) h680)) (Bf_no))
    | b + 9 =>
      exact Bf_eq (by rw [f_X3_gatherIntoSet]) Bf_no
theorem kb_f_X3_gatherIntoTuple {P : Prop} : ∀ (k b : Nat) (L : LV) (σ : CS), BY P σ → Bf P (f_X3_gatherIntoTuple k b L σ) := by
  intro k
  induction k with
  | zero => intro b L σ _; exact Bf_no
  | succ k ih =>
    intro b L σ hb
    match b with
    | 0 =>
      refine Bf_eq (by rw [f_X3_gatherIntoTuple]) ?_
      exact Bf_ite (Bf_op (kb_y_X11_unraw _ _ _ _ hb) (fun _ h681 => Bf_ite (Bf_op (kb_y_X11_unraw _ _ _ _ h681) (fun _ h682 => Bf_ite (ih _ _ _ h682) (Bf_ite (Bf_ite (ih _ _ _ h682) (ih _ _ _ h682)) (ih _ _ _ h682)))) (Bf_no))) (Bf_no)
    | 1 =>
      refine Bf_eq (by rw [f_X3_gatherIntoTuple]) ?_
      exact Bf_so hb
    | 2 =>
      refine Bf_eq (by rw [f_X3_gatherIntoTuple]) ?_
      exact Bf_op (kb_y_X1_size _ _ _ _ hb) (fun _ h683 => Bf_ite (ih _ _ _ h683) (Bf_ite (ih _ _ _ h683) (Bf_ite (ih _ _ _ h683) (ih _ _ _ h683))))
    | 3 =>
      refine Bf_eq (by rw [f_X3_gatherIntoTuple]) ?_
      exact Bf_ite (Bf_ite (Bf_op (kb_y_X11_raw _ _ _ _ (BY_A (by decide) hb)) (fun _ h684 => Bf_ite (ih _ _ _ (BY_A (by decide) h684)) (Bf_no))) (Bf_no)) (Bf_no)
    | 4 =>
      refine Bf_eq (by rw [f_X3_gatherIntoTuple]) ?_
      exact Bf_op (kb_y_X11_raw _ _ _ _ hb) (fun _ h685 => Bf_ite (Bf_so (BY_A (by decide) h685)) (Bf_no))
    | 5 =>
      refine Bf_eq (by rw [f_X3_gatherIntoTuple]) ?_
      exact Bf_ox (kb_f_X3_push _ _ _ _ hb) (fun _ h686 => Bf_op (kb_y_X11_raw _ _ _ _ h686) (fun _ h687 => Bf_ite (Bf_so (BY_A (by decide) h687)) (Bf_no)))
    | b + 6 =>
      exact Bf_eq (by rw [f_X3_gatherIntoTuple]) Bf_no
theorem kb_f_X3_gathered {P : Prop} : ∀ (k b : Nat) (L : LV) (σ : CS), BY P σ → Bf P (f_X3_gathered k b L σ) := by
  intro k
  induction k with
  | zero => intro b L σ _; exact Bf_no
  | succ k ih =>
    intro b L σ hb
    match b with
    | 0 =>
      refine Bf_eq (by rw [f_X3_gathered]) ?_
      exact Bf_ite (Bf_op (kb_y_X11_unraw _ _ _ _ hb) (fun _ h688 => Bf_ite (Bf_op (kb_y_X11_unraw _ _ _ _ h688) (fun _ h689 => ih _ _ _ (BY_I (by decide) h689))) (Bf_no))) (Bf_no)
    | 1 =>
      refine Bf_eq (by rw [f_X3_gathered]) ?_
      exact Bf_ite (ih _ _ _ hb) (Bf_ite (ih _ _ _ hb) (Bf_ite (Bf_ite (Bf_op (kb_y_X3_fail _ _ _ _ hb) (fun _ h690 => ih _ _ _ h690)) (ih _ _ _ hb)) (Bf_no)))
    | 2 =>
      refine Bf_eq (by rw [f_X3_gathered]) ?_
      exact Bf_ite (ih _ _ _ hb) (Bf_op (kb_y_X3_fail _ _ _ _ hb) (fun _ h691 => ih _ _ _ h691))
    | 3 =>
      refine Bf_eq (by rw [f_X3_gathered]) ?_
      exact Bf_so hb
    | 4 =>
      refine Bf_eq (by rw [f_X3_gathered]) ?_
      exact Bf_ite (ih _ _ _ hb) (Bf_op (kb_y_X1_makeRow__z20 _ _ _ _ hb) (fun _ h692 => ih _ _ _ h692))
    | 5 =>
      refine Bf_eq (by rw [f_X3_gathered]) ?_
      exact Bf_op (kb_y_X1_makeTuple__z20 _ _ _ _ hb) (fun _ h693 => ih _ _ _ h693)
    | 6 =>
      refine Bf_eq (by rw [f_X3_gathered]) ?_
      exact Bf_ox (kb_f_X3_give _ _ _ _ hb) (fun _ h694 => ih _ _ _ h694)
    | b + 7 =>
      exact Bf_eq (by rw [f_X3_gathered]) Bf_no
theorem kb_f_X3_gather {P : Prop} : ∀ (k b : Nat) (L : LV) (σ : CS), BY P σ → Bf P (f_X3_gather k b L σ) := by
  intro k
  induction k with
  | zero => intro b L σ _; exact Bf_no
  | succ k ih =>
    intro b L σ hb
    match b with
    | 0 =>
      refine Bf_eq (by rw [f_X3_gather]) ?_
      exact Bf_ite (ih _ _ _ hb) (Bf_ite (ih _ _ _ hb) (Bf_ite (ih _ _ _ hb) (Bf_ite (ih _ _ _ hb) (Bf_ite (ih _ _ _ hb) (Bf_ite (ih _ _ _ hb) (Bf_ite (ih _ _ _ hb) (ih _ _ _ hb)))))))
    | 1 =>
      refine Bf_eq (by rw [f_X3_gather]) ?_
      exact Bf_op (kb_y_X11_raw _ _ _ _ hb) (fun _ h695 => Bf_ox (kb_f_X3_push _ _ _ _ h695) (fun _ h696 => Bf_op (kb_y_X11_raw _ _ _ _ h696) (fun _ h697 => Bf_ox (kb_f_X3_push _ _ _ _ h697) (fun _ h698 => ih _ _ _ h698))))
    | 2 =>
      refine Bf_eq (by rw [f_X3_gather]) ?_
      exact Bf_op (kb_y_X3_pop _ _ _ _ hb) (fun _ h699 => Bf_ite (ih _ _ _ h699) (ih _ _ _ h699))
    | 3 =>
      refine Bf_eq (by rw [f_X3_gather]) ?_
      exact Bf_op (kb_y_X3_pop _ _ _ _ hb) (fun _ h700 => Bf_ox (kb_f_X3_gatherIntoTuple _ _ _ _ h700) (fun _ h701 => ih _ _ _ h701))
    | 4 =>
      refine Bf_eq (by rw [f_X3_gather]) ?_
      exact Bf_ite (ih _ _ _ hb) (ih _ _ _ hb)
    | 5 =>
      refine Bf_eq (by rw [f_X3_gather]) ?_
      exact Bf_ox (kb_f_X3_joinSet _ _ _ _ hb) (fun _ h702 => ih _ _ _ h702)
    | 6 =>
      refine Bf_eq (by rw [f_X3_gather]) ?_
      exact Bf_ox (kb_f_X3_joinTuple _ _ _ _ hb) (fun _ h703 => ih _ _ _ h703)
    | 7 =>
      refine Bf_eq (by rw [f_X3_gather]) ?_
      exact Bf_so hb
    | 8 =>
      refine Bf_eq (by rw [f_X3_gather]) ?_
      exact ih _ _ _ hb
    | 9 =>
      refine Bf_eq (by rw [f_X3_gather]) ?_
      exact Bf_ox (kb_f_X3_gatherIntoSet _ _ _ _ hb) (fun _ h704 => ih _ _ _ h704)
    | 10 =>
      refine Bf_eq (by rw [f_X3_gather]) ?_
      exact ih _ _ _ hb
    | 11 =>
      refine Bf_eq (by rw [f_X3_gather]) ?_
      exact Bf_ox (kb_f_X3_gathered _ _ _ _ hb) (fun _ h705 => ih _ _ _ h705)
    | b + 12 =>
      exact Bf_eq (by rw [f_X3_gather]) Bf_no
theorem kb_f_X3_takeFrom {P : Prop} : ∀ (k b : Nat) (L : LV) (σ : CS), BY P σ → Bf P (f_X3_takeFrom k b L σ) := by
  intro k
  induction k with
  | zero => intro b L σ _; exact Bf_no
  | succ k ih =>
    intro b L σ hb
    match b with
    | 0 =>
      refine Bf_eq (by rw [f_X3_takeFrom]) ?_
      exact Bf_ite (Bf_op (kb_y_X1_kind _ _ _ _ hb) (fun _ h706 => Bf_ite (Bf_ite (ih _ _ _ h706) (ih _ _ _ h706)) (ih _ _ _ h706))) (Bf_no)
    | 1 =>
      refine Bf_eq (by rw [f_X3_takeFrom]) ?_
      exact Bf_ite (ih _ _ _ hb) (Bf_ite (ih _ _ _ hb) (ih _ _ _ hb))
    | 2 =>
      refine Bf_eq (by rw [f_X3_takeFrom]) ?_
      exact Bf_op (kb_y_X1_length _ _ _ _ hb) (fun _ h707 => Bf_ite (Bf_ite (Bf_ox (kb_f_X3_push _ _ _ _ (BY_A (by decide) h707)) (fun _ h708 => Bf_oP (fun _ => Bf_ite (Bf_so (BY_I (by decide) h708)) (Bf_no)))) (Bf_no)) (ih _ _ _ h707))
    | 3 =>
      refine Bf_eq (by rw [f_X3_takeFrom]) ?_
      exact Bf_op (kb_y_X3_fail _ _ _ _ hb) (fun _ h709 => Bf_so h709)
    | 4 =>
      refine Bf_eq (by rw [f_X3_takeFrom]) ?_
      exact Bf_ite (ih _ _ _ hb) (ih _ _ _ hb)
    | 5 =>
      refine Bf_eq (by rw [f_X3_takeFrom]) ?_
      exact ih _ _ _ hb
    | 6 =>
      refine Bf_eq (by rw [f_X3_takeFrom]) ?_
      exact Bf_op (kb_y_X1_taken _ _ _ _ hb) (fun _ h710 => Bf_ite (Bf_op (kb_y_X0_remainder _ _ _ _ (BY_I (by decide) (BY_A (by decide) h710))) (fun _ h711 => Bf_ox (kb_f_X3_give _ _ _ _ h711) (fun _ h712 => Bf_so h712))) (Bf_no))
    | b + 7 =>
      exact Bf_eq (by rw [f_X3_takeFrom]) Bf_no
theorem kb_f_X3_partly {P : Prop} : ∀ (k b : Nat) (L : LV) (σ : CS), BY P σ → Bf P (f_X3_partly k b L σ) := by
  intro k
  induction k with
  | zero => intro b L σ _; exact Bf_no
  | succ k ih =>
    intro b L σ hb
    match b with
    | 0 =>
      refine Bf_eq (by rw [f_X3_partly]) ?_
      exact Bf_ite (ih _ _ _ hb) (Bf_ite (ih _ _ _ hb) (Bf_ite (ih _ _ _ hb) (Bf_ite (ih _ _ _ hb) (Bf_ite (ih _ _ _ hb) (ih _ _ _ hb)))))
    | 1 =>
      refine Bf_eq (by rw [f_X3_partly]) ?_
      exact Bf_ite (Bf_ite (Bf_op (kb_y_X0_part _ _ _ _ (BY_I (by decide) hb)) (fun _ h713 => Bf_op (kb_y_X3_replace _ _ _ _ h713) (fun _ h714 => ih _ _ _ h714))) (Bf_no)) (Bf_no)
    | 2 =>
      refine Bf_eq (by rw [f_X3_partly]) ?_
      exact Bf_ite (Bf_ite (Bf_ite (Bf_op (kb_y_X0_part _ _ _ _ (BY_I (by decide) hb)) (fun _ h715 => Bf_op (kb_y_X3_replace _ _ _ _ h715) (fun _ h716 => ih _ _ _ h716))) (Bf_no)) (Bf_no)) (Bf_no)
    | 3 =>
      refine Bf_eq (by rw [f_X3_partly]) ?_
      exact Bf_ite (Bf_op (kb_y_X1_member _ _ _ _ hb) (fun _ h717 => Bf_ox (kb_f_X3_push _ _ _ _ h717) (fun _ h718 => ih _ _ _ h718))) (Bf_no)
    | 4 =>
      refine Bf_eq (by rw [f_X3_partly]) ?_
      exact Bf_ite (Bf_op (kb_y_X1_kind _ _ _ _ hb) (fun _ h719 => Bf_ite (ih _ _ _ h719) (Bf_op (kb_y_X3_fail _ _ _ _ h719) (fun _ h720 => ih _ _ _ h720)))) (Bf_no)
    | 5 =>
      refine Bf_eq (by rw [f_X3_partly]) ?_
      exact Bf_ox (kb_f_X3_takeFrom _ _ _ _ hb) (fun _ h721 => ih _ _ _ h721)
    | 6 =>
      refine Bf_eq (by rw [f_X3_partly]) ?_
      exact Bf_so hb
    | b + 7 =>
      exact Bf_eq (by rw [f_X3_partly]) Bf_no
theorem kb_f_X3_fold {P : Prop} : ∀ (k b : Nat) (L : LV) (σ : CS), BY P σ → Bf P (f_X3_fold k b L σ) := by
  intro k
  induction k with
  | zero => intro b L σ _; exact Bf_no
  | succ k ih =>
    intro b L σ hb
    match b with
    | 0 =>
      refine Bf_eq (by rw [f_X3_fold]) ?_
      exact Bf_ite (Bf_op (kb_y_X1_kind _ _ _ _ hb) (fun _ h722 => Bf_ite (ih _ _ _ h722) (Bf_op (kb_y_X3_fail _ _ _ _ h722) (fun _ h723 => ih _ _ _ h723)))) (Bf_no)
    | 1 =>
      refine Bf_eq (by rw [f_X3_fold]) ?_
      exact Bf_op (kb_y_X1_length _ _ _ _ hb) (fun _ h724 => Bf_ite (Bf_op (kb_y_X3_replace _ _ _ _ h724) (fun _ h725 => ih _ _ _ (BY_I (by decide) h725))) (ih _ _ _ h724))
    | 2 =>
      refine Bf_eq (by rw [f_X3_fold]) ?_
      exact Bf_so hb
    | 3 =>
      refine Bf_eq (by rw [f_X3_fold]) ?_
      exact Bf_op (kb_y_X1_member _ _ _ _ hb) (fun _ h726 => Bf_ox (kb_f_X3_push _ _ _ _ h726) (fun _ h727 => Bf_op (kb_y_X11_raw _ _ _ _ h727) (fun _ h728 => Bf_ox (kb_f_X3_push _ _ _ _ h728) (fun _ h729 => ih _ _ _ h729))))
    | b + 4 =>
      exact Bf_eq (by rw [f_X3_fold]) Bf_no
theorem kb_f_X3_foldOn {P : Prop} : ∀ (k b : Nat) (L : LV) (σ : CS), BY P σ → Bf P (f_X3_foldOn k b L σ) := by
  intro k
  induction k with
  | zero => intro b L σ _; exact Bf_no
  | succ k ih =>
    intro b L σ hb
    match b with
    | 0 =>
      refine Bf_eq (by rw [f_X3_foldOn]) ?_
      exact Bf_ite (Bf_ox (kb_f_X3_fold _ _ _ _ hb) (fun _ h730 => Bf_so h730)) (ih _ _ _ hb)
    | 1 =>
      refine Bf_eq (by rw [f_X3_foldOn]) ?_
      exact Bf_ite (Bf_op (kb_y_X11_unraw _ _ _ _ hb) (fun _ h731 => Bf_ite (Bf_ite (Bf_op (kb_y_X1_length _ _ _ _ h731) (fun _ h732 => Bf_ite (ih _ _ _ h732) (Bf_op (kb_y_X3_replace _ _ _ _ (BY_I (by decide) h732)) (fun _ h733 => Bf_so h733)))) (Bf_no)) (Bf_no))) (Bf_no)
    | 2 =>
      refine Bf_eq (by rw [f_X3_foldOn]) ?_
      exact Bf_op (kb_y_X1_member _ _ _ _ hb) (fun _ h734 => Bf_ite (Bf_op (kb_y_X0_sum _ _ _ _ h734) (fun _ h735 => ih _ _ _ h735)) (ih _ _ _ h734))
    | 3 =>
      refine Bf_eq (by rw [f_X3_foldOn]) ?_
      exact Bf_ite (Bf_op (kb_y_X0_product _ _ _ _ hb) (fun _ h736 => ih _ _ _ h736)) (ih _ _ _ hb)
    | 4 =>
      refine Bf_eq (by rw [f_X3_foldOn]) ?_
      exact Bf_op (kb_y_X11_isError _ _ _ _ hb) (fun _ h737 => Bf_ite (ih _ _ _ h737) (Bf_op (kb_y_X3_fail _ _ _ _ h737) (fun _ h738 => Bf_so h738)))
    | 5 =>
      refine Bf_eq (by rw [f_X3_foldOn]) ?_
      exact Bf_ite (ih _ _ _ hb) (ih _ _ _ hb)
    | 6 =>
      refine Bf_eq (by rw [f_X3_foldOn]) ?_
      exact Bf_ite (Bf_op (kb_y_X11_raw _ _ _ _ (BY_A (by decide) hb)) (fun _ h739 => Bf_ite (ih _ _ _ (BY_A (by decide) h739)) (Bf_no))) (Bf_no)
    | 7 =>
      refine Bf_eq (by rw [f_X3_foldOn]) ?_
      exact ih _ _ _ hb
    | 8 =>
      refine Bf_eq (by rw [f_X3_foldOn]) ?_
      exact Bf_op (kb_y_X0_larger _ _ _ _ hb) (fun _ h740 => ih _ _ _ h740)
    | 9 =>
      refine Bf_eq (by rw [f_X3_foldOn]) ?_
      exact Bf_ite (ih _ _ _ (BY_I (by decide) hb)) (Bf_op (kb_y_X1_size _ _ _ _ (BY_I (by decide) hb)) (fun _ h741 => Bf_op (kb_y_X3_spend _ _ _ _ h741) (fun _ h742 => ih _ _ _ h742)))
    | 10 =>
      refine Bf_eq (by rw [f_X3_foldOn]) ?_
      exact Bf_so hb
    | b + 11 =>
      exact Bf_eq (by rw [f_X3_foldOn]) Bf_no
theorem kb_f_X3_read {P : Prop} : ∀ (k b : Nat) (L : LV) (σ : CS), BY P σ → Bf P (f_X3_read k b L σ) := by
  intro k
  induction k with
  | zero => intro b L σ _; exact Bf_no
  | succ k ih =>
    intro b L σ hb
    match b with
    | 0 =>
      refine Bf_eq (by rw [f_X3_read]) ?_
      exact Bf_oP (fun _ => Bf_ite (Bf_oP (fun _ => Bf_ite (Bf_ite (Bf_ox (kb_f_X3_push _ _ _ _ (BY_I (by decide) hb)) (fun _ h743 => ih _ _ _ h743)) (Bf_no)) (Bf_no))) (Bf_no))
    | 1 =>
      refine Bf_eq (by rw [f_X3_read]) ?_
      exact Bf_ite (ih _ _ _ hb) (Bf_ite (Bf_ox (kb_f_X3_makeRoom _ _ _ _ hb) (fun _ h744 => Bf_oP (fun _ => Bf_ite (Bf_ite (Bf_ite (Bf_ite (Bf_op (kb_y_X0_part _ _ _ _ h744) (fun _ h745 => Bf_op (kb_y_X3_replace _ _ _ _ h745) (fun _ h746 => Bf_ite (ih _ _ _ h746) (ih _ _ _ h746)))) (Bf_no)) (Bf_no)) (Bf_no)) (Bf_no)))) (ih _ _ _ hb))
    | 2 =>
      refine Bf_eq (by rw [f_X3_read]) ?_
      exact Bf_so hb
    | 3 =>
      refine Bf_eq (by rw [f_X3_read]) ?_
      exact ih _ _ _ hb
    | 4 =>
      refine Bf_eq (by rw [f_X3_read]) ?_
      exact ih _ _ _ hb
    | b + 5 =>
      exact Bf_eq (by rw [f_X3_read]) Bf_no
theorem kb_f_X3_write {P : Prop} : ∀ (k b : Nat) (L : LV) (σ : CS), BY P σ → Bf P (f_X3_write k b L σ) := by
  intro k
  induction k with
  | zero => intro b L σ _; exact Bf_no
  | succ k ih =>
    intro b L σ hb
    match b with
    | 0 =>
      refine Bf_eq (by rw [f_X3_write]) ?_
      exact Bf_oP (fun _ => Bf_ite (Bf_oP (fun _ => Bf_ite (Bf_ite (Bf_ox (kb_f_X3_push _ _ _ _ (BY_I (by decide) hb)) (fun _ h747 => ih _ _ _ h747)) (Bf_no)) (Bf_no))) (Bf_no))
    | 1 =>
      refine Bf_eq (by rw [f_X3_write]) ?_
      exact Bf_ite (ih _ _ _ hb) (Bf_ite (Bf_ox (kb_f_X3_makeRoom _ _ _ _ hb) (fun _ h748 => Bf_oP (fun _ => Bf_ite (Bf_ox (kb_f_X3_push _ _ _ _ h748) (fun _ h749 => Bf_ite (Bf_ite (Bf_ite (Bf_op (kb_y_X0_part _ _ _ _ h749) (fun _ h750 => Bf_op (kb_y_X3_replace _ _ _ _ h750) (fun _ h751 => Bf_ite (ih _ _ _ h751) (ih _ _ _ h751)))) (Bf_no)) (Bf_no)) (Bf_no))) (Bf_no)))) (ih _ _ _ hb))
    | 2 =>
      refine Bf_eq (by rw [f_X3_write]) ?_
      exact Bf_ite (Bf_ox (kb_f_X3_push _ _ _ _ hb) (fun _ h752 => ih _ _ _ h752)) (Bf_no)
    | 3 =>
      refine Bf_eq (by rw [f_X3_write]) ?_
      exact ih _ _ _ hb
    | 4 =>
      refine Bf_eq (by rw [f_X3_write]) ?_
      exact ih _ _ _ hb
    | 5 =>
      refine Bf_eq (by rw [f_X3_write]) ?_
      exact Bf_ite (ih _ _ _ hb) (Bf_ite (Bf_ox (kb_f_X3_makeRoom _ _ _ _ hb) (fun _ h753 => Bf_oP (fun _ => Bf_ite (Bf_ite (ih _ _ _ h753) (ih _ _ _ h753)) (Bf_no)))) (ih _ _ _ hb))
    | 6 =>
      refine Bf_eq (by rw [f_X3_write]) ?_
      exact Bf_ite (Bf_ite (Bf_op (kb_y_X3_assign _ _ _ _ hb) (fun _ h754 => ih _ _ _ h754)) (Bf_no)) (ih _ _ _ hb)
    | 7 =>
      refine Bf_eq (by rw [f_X3_write]) ?_
      exact Bf_ite (ih _ _ _ hb) (ih _ _ _ hb)
    | 8 =>
      refine Bf_eq (by rw [f_X3_write]) ?_
      exact Bf_ite (Bf_ite (Bf_ite (Bf_ite (Bf_op (kb_y_X0_written _ _ _ _ (BY_I (by decide) hb)) (fun _ h755 => Bf_op (kb_y_X3_replace _ _ _ _ h755) (fun _ h756 => ih _ _ _ h756))) (Bf_no)) (Bf_no)) (Bf_no)) (Bf_no)
    | 9 =>
      refine Bf_eq (by rw [f_X3_write]) ?_
      exact Bf_so (BY_I (by decide) hb)
    | 10 =>
      refine Bf_eq (by rw [f_X3_write]) ?_
      exact ih _ _ _ hb
    | 11 =>
      refine Bf_eq (by rw [f_X3_write]) ?_
      exact ih _ _ _ hb
    | b + 12 =>
      exact Bf_eq (by rw [f_X3_write]) Bf_no
theorem kb_f_X6_printPlain {P : Prop} : ∀ (k b : Nat) (L : LV) (σ : CS), BY P σ → Bf P (f_X6_printPlain k b L σ) := by
  intro k
  induction k with
  | zero => intro b L σ _; exact Bf_no
  | succ k ih =>
    intro b L σ hb
    match b with
    | 0 =>
      refine Bf_eq (by rw [f_X6_printPlain]) ?_
      exact Bf_op (kb_y_X1_kind _ _ _ _ (BY_I (by decide) hb)) (fun _ h757 => Bf_ite (Bf_op (kb_y_X6_writeBytes _ _ _ _ h757) (fun _ h758 => ih _ _ _ h758)) (ih _ _ _ h757))
    | 1 =>
      refine Bf_eq (by rw [f_X6_printPlain]) ?_
      exact Bf_ox (kb_f_X6_write _ _ _ _ hb) (fun _ h759 => ih _ _ _ h759)
    | 2 =>
      refine Bf_eq (by rw [f_X6_printPlain]) ?_
      exact Bf_so hb
    | b + 3 =>
      exact Bf_eq (by rw [f_X6_printPlain]) Bf_no
theorem kb_f_X3_putOut {P : Prop} : ∀ (k b : Nat) (L : LV) (σ : CS), BY P σ → Bf P (f_X3_putOut k b L σ) := by
  intro k
  induction k with
  | zero => intro b L σ _; exact Bf_no
  | succ k ih =>
    intro b L σ hb
    match b with
    | 0 =>
      refine Bf_eq (by rw [f_X3_putOut]) ?_
      exact Bf_ite (ih _ _ _ hb) (Bf_ite (Bf_ite (Bf_ite (Bf_ad (ih _ _ _ (BY_Z ⟨fun _ => by decide, fun z => absurd z (by decide)⟩ hb))) (Bf_no)) (ih _ _ _ hb)) (Bf_no))
    | 1 =>
      refine Bf_eq (by rw [f_X3_putOut]) ?_
      exact Bf_op (kb_y_X3_countOut _ _ _ _ hb) (fun _ h760 => Bf_so h760)
    | 2 =>
      refine Bf_eq (by rw [f_X3_putOut]) ?_
      exact Bf_ite (Bf_ite (ih _ _ _ (BY_cp22 hb)) (Bf_no)) (Bf_no)
    | b + 3 =>
      exact Bf_eq (by rw [f_X3_putOut]) Bf_no
theorem kb_f_X3_print {P : Prop} : ∀ (k b : Nat) (L : LV) (σ : CS), BY P σ → Bf P (f_X3_print k b L σ) := by
  intro k
  induction k with
  | zero => intro b L σ _; exact Bf_no
  | succ k ih =>
    intro b L σ hb
    match b with
    | 0 =>
      refine Bf_eq (by rw [f_X3_print]) ?_
      exact ih _ _ _ hb
    | 1 =>
      refine Bf_eq (by rw [f_X3_print]) ?_
      exact Bf_ite (ih _ _ _ hb) (Bf_ite (ih _ _ _ hb) (Bf_ite (Bf_ite (Bf_ite (ih _ _ _ hb) (ih _ _ _ hb)) (Bf_no)) (Bf_no)))
    | 2 =>
      refine Bf_eq (by rw [f_X3_print]) ?_
      exact Bf_so (BY_I (by decide) hb)
    | 3 =>
      refine Bf_eq (by rw [f_X3_print]) ?_
      exact ih _ _ _ hb
    | 4 =>
      refine Bf_eq (by rw [f_X3_print]) ?_
      exact Bf_ite (ih _ _ _ hb) (Bf_ite (Bf_op (kb_y_X1_kind _ _ _ _ hb) (fun _ h761 => Bf_ite (Bf_ite (Bf_op (kb_y_X1_length _ _ _ _ h761) (fun _ h762 => Bf_op (kb_y_X3_countOut _ _ _ _ h762) (fun _ h763 => ih _ _ _ h763))) (Bf_no)) (ih _ _ _ h761))) (Bf_no))
    | 5 =>
      refine Bf_eq (by rw [f_X3_print]) ?_
      exact Bf_ite (ih _ _ _ hb) (Bf_ite (ih _ _ _ hb) (Bf_op (kb_y_X3_countOut _ _ _ _ hb) (fun _ h764 => ih _ _ _ h764)))
    | 6 =>
      refine Bf_eq (by rw [f_X3_print]) ?_
      exact ih _ _ _ hb
    | 7 =>
      refine Bf_eq (by rw [f_X3_print]) ?_
      exact Bf_ite (Bf_ox (kb_f_X6_printPlain _ _ _ _ hb) (fun _ h765 => Bf_ite (ih _ _ _ h765) (ih _ _ _ h765))) (Bf_no)
    | 8 =>
      refine Bf_eq (by rw [f_X3_print]) ?_
      exact ih _ _ _ hb
    | 9 =>
      refine Bf_eq (by rw [f_X3_print]) ?_
      exact Bf_op (kb_y_X6_put _ _ _ _ hb) (fun _ h766 => Bf_ox (kb_f_X3_putOut _ _ _ _ h766) (fun _ h767 => ih _ _ _ h767))
    | b + 10 =>
      exact Bf_eq (by rw [f_X3_print]) Bf_no
theorem kb_f_X3_execute : ∀ (k b : Nat) (L : LV) (σ : CS), BY False σ → Bf False (f_X3_execute k b L σ) := by
  intro k
  induction k with
  | zero => intro b L σ _; exact Bf_no
  | succ k ih =>
    intro b L σ hb
    match b with
    | 0 =>
      refine Bf_eq (by rw [f_X3_execute]) ?_
      exact Bf_op (kb_y_X3_beginWork _ _ _ _ hb) (fun _ h768 => Bf_oP (fun _ => ih _ _ _ h768))
    | 1 =>
      refine Bf_eq (by rw [f_X3_execute]) ?_
      exact Bf_ite (ih _ _ _ hb) (Bf_ite (Bf_op (kb_y_X1_isTight _ _ _ _ hb) (fun _ h769 => Bf_ite (ih _ _ _ h769) (Bf_ox (kb_f_X3_makeRoom _ _ _ _ h769) (fun _ h770 => ih _ _ _ h770)))) (ih _ _ _ hb))
    | 2 =>
      refine Bf_eq (by rw [f_X3_execute]) ?_
      exact Bf_so hb
    | 3 =>
      refine Bf_eq (by rw [f_X3_execute]) ?_
      exact Bf_ite (ih _ _ _ hb) (Bf_ite (ih _ _ _ hb) (ih _ _ _ hb))
    | 4 =>
      refine Bf_eq (by rw [f_X3_execute]) ?_
      exact Bf_so hb
    | 5 =>
      refine Bf_eq (by rw [f_X3_execute]) ?_
      exact Bf_ite (Bf_ite (Bf_ite (ih _ _ _ (BY_I (by decide) hb)) (Bf_ite (ih _ _ _ (BY_I (by decide) hb)) (Bf_ite (ih _ _ _ (BY_I (by decide) hb)) (Bf_ite (ih _ _ _ (BY_I (by decide) hb)) (Bf_ite (ih _ _ _ (BY_I (by decide) hb)) (Bf_ite (ih _ _ _ (BY_I (by decide) hb)) (Bf_ite (ih _ _ _ (BY_I (by decide) hb)) (Bf_ite (ih _ _ _ (BY_I (by decide) hb)) (Bf_ite (ih _ _ _ (BY_I (by decide) hb)) (Bf_ite (ih _ _ _ (BY_I (by decide) hb)) (Bf_ite (ih _ _ _ (BY_I (by decide) hb)) (Bf_ite (ih _ _ _ (BY_I (by decide) hb)) (Bf_ite (ih _ _ _ (BY_I (by decide) hb)) (ih _ _ _ (BY_I (by decide) hb))))))))))))))) (Bf_no)) (Bf_no)
    | 6 =>
      refine Bf_eq (by rw [f_X3_execute]) ?_
      exact Bf_ox (kb_f_X3_flow _ _ _ _ hb) (fun _ h771 => ih _ _ _ h771)
    | 7 =>
      refine Bf_eq (by rw [f_X3_execute]) ?_
      exact Bf_ox (kb_f_X3_callsAndPoints _ _ _ _ hb) (fun _ h772 => ih _ _ _ h772)
    | 8 =>
      refine Bf_eq (by rw [f_X3_execute]) ?_
      exact Bf_ox (kb_f_X3_data _ _ _ _ hb) (fun _ h773 => ih _ _ _ h773)
    | 9 =>
      refine Bf_eq (by rw [f_X3_execute]) ?_
      exact Bf_ox (kb_f_X3_makeValue _ _ _ _ hb) (fun _ h774 => ih _ _ _ h774)
    | 10 =>
      refine Bf_eq (by rw [f_X3_execute]) ?_
      exact Bf_ox (kb_f_X3_iterate _ _ _ _ hb) (fun _ h775 => ih _ _ _ h775)
    | 11 =>
      refine Bf_eq (by rw [f_X3_execute]) ?_
      exact Bf_ox (kb_f_X3_gather _ _ _ _ hb) (fun _ h776 => ih _ _ _ h776)
    | 12 =>
      refine Bf_eq (by rw [f_X3_execute]) ?_
      exact Bf_ox (kb_f_X3_partly _ _ _ _ hb) (fun _ h777 => ih _ _ _ h777)
    | 13 =>
      refine Bf_eq (by rw [f_X3_execute]) ?_
      exact Bf_ox (kb_f_X3_foldOn _ _ _ _ hb) (fun _ h778 => ih _ _ _ h778)
    | 14 =>
      refine Bf_eq (by rw [f_X3_execute]) ?_
      exact Bf_ite (Bf_ite (Bf_op (kb_y_X0_binary _ _ _ _ (BY_I (by decide) hb)) (fun _ h779 => Bf_op (kb_y_X3_replace _ _ _ _ h779) (fun _ h780 => ih _ _ _ h780))) (Bf_no)) (Bf_no)
    | 15 =>
      refine Bf_eq (by rw [f_X3_execute]) ?_
      exact Bf_ox (kb_f_X3_print _ _ _ _ hb) (fun _ h781 => ih _ _ _ h781)
    | 16 =>
      refine Bf_eq (by rw [f_X3_execute]) ?_
      exact Bf_ite (Bf_ox (kb_f_X0_unary _ _ _ _ hb) (fun _ h782 => Bf_op (kb_y_X3_replace _ _ _ _ h782) (fun _ h783 => ih _ _ _ h783))) (Bf_no)
    | 17 =>
      refine Bf_eq (by rw [f_X3_execute]) ?_
      exact Bf_ite (ih _ _ _ hb) (ih _ _ _ hb)
    | 18 =>
      refine Bf_eq (by rw [f_X3_execute]) ?_
      exact Bf_ite (ih _ _ _ hb) (ih _ _ _ hb)
    | 19 =>
      refine Bf_eq (by rw [f_X3_execute]) ?_
      exact ih _ _ _ hb
    | 20 =>
      refine Bf_eq (by rw [f_X3_execute]) ?_
      exact ih _ _ _ hb
    | 21 =>
      refine Bf_eq (by rw [f_X3_execute]) ?_
      exact Bf_ox (kb_f_X3_read _ _ _ _ hb) (fun _ h784 => ih _ _ _ h784)
    | 22 =>
      refine Bf_eq (by rw [f_X3_execute]) ?_
      exact ih _ _ _ hb
    | 23 =>
      refine Bf_eq (by rw [f_X3_execute]) ?_
      exact Bf_ite (ih _ _ _ hb) (ih _ _ _ hb)
    | 24 =>
      refine Bf_eq (by rw [f_X3_execute]) ?_
      exact ih _ _ _ hb
    | 25 =>
      refine Bf_eq (by rw [f_X3_execute]) ?_
      exact Bf_ox (kb_f_X3_write _ _ _ _ hb) (fun _ h785 => ih _ _ _ h785)
    | b + 26 =>
      exact Bf_eq (by rw [f_X3_execute]) Bf_no
theorem kb_y_J7_fill_53178__a23 {P : Prop} : ∀ (k b : Nat) (L : LV) (σ : CS), BY P σ → By P (y_J7_fill_53178__a23 k b L σ) := by
  intro k
  induction k with
  | zero => intro b L σ _; exact By_no
  | succ k ih =>
    intro b L σ hb
    match b with
    | 0 =>
      refine By_eq (by rw [y_J7_fill_53178__a23]) ?_
      exact ih _ _ _ hb
    | 1 =>
      refine By_eq (by rw [y_J7_fill_53178__a23]) ?_
      exact By_ite (ih _ _ _ hb) (By_ite (ih _ _ _ (BY_A (by decide) hb)) (By_no))
    | 2 =>
      refine By_eq (by rw [y_J7_fill_53178__a23]) ?_
      exact By_so hb
    | b + 3 =>
      exact By_eq (by rw [y_J7_fill_53178__a23]) By_no
theorem kb_f_X3_advance : ∀ (k b : Nat) (L : LV) (σ : CS), BY False σ → Bf False (f_X3_advance k b L σ) := by
  intro k
  induction k with
  | zero => intro b L σ _; exact Bf_no
  | succ k ih =>
    intro b L σ hb
    match b with
    | 0 =>
      refine Bf_eq (by rw [f_X3_advance]) ?_
      exact Bf_oN (ih _ _ _ hb) (Bf_ite (ih _ _ _ hb) (ih _ _ _ hb))
    | 1 =>
      refine Bf_eq (by rw [f_X3_advance]) ?_
      exact Bf_so hb
    | 2 =>
      refine Bf_eq (by rw [f_X3_advance]) ?_
      exact Bf_op (kb_y_X9_expect _ _ _ _ (BY_I (by decide) hb)) (fun _ h786 => Bf_ox (kb_f_X3_execute _ _ _ _ h786) (fun _ h787 => Bf_ite (ih _ _ _ h787) (Bf_op (kb_y_J7_fill_53178__a23 _ _ _ _ h787) (fun _ h788 => ih _ _ _ (BY_I (by decide) h788)))))
    | 3 =>
      refine Bf_eq (by rw [f_X3_advance]) ?_
      exact Bf_so hb
    | 4 =>
      refine Bf_eq (by rw [f_X3_advance]) ?_
      exact Bf_oP (fun _ => Bf_ite (ih _ _ _ (BY_I (by decide) (BY_I (by decide) (BY_7 (Or.inr (fun y => y)) hb)))) (Bf_no))
    | b + 5 =>
      exact Bf_eq (by rw [f_X3_advance]) Bf_no
theorem kb_f_X11_back : ∀ (k b : Nat) (L : LV) (σ : CS), BY False σ → Bf False (f_X11_back k b L σ) := by
  intro k
  induction k with
  | zero => intro b L σ _; exact Bf_no
  | succ k ih =>
    intro b L σ hb
    match b with
    | 0 =>
      refine Bf_eq (by rw [f_X11_back]) ?_
      exact Bf_ox (kb_f_X11_wantRun _ _ _ _ hb) (fun _ h789 => Bf_ite (ih _ _ _ h789) (Bf_ite (ih _ _ _ h789) (ih _ _ _ h789)))
    | 1 =>
      refine Bf_eq (by rw [f_X11_back]) ?_
      exact Bf_so hb
    | 2 =>
      refine Bf_eq (by rw [f_X11_back]) ?_
      exact Bf_ite (ih _ _ _ hb) (Bf_ox (kb_f_X3_goBack _ _ _ _ hb) (fun _ h790 => Bf_ox (kb_f_X3_advance _ _ _ _ h790) (fun _ h791 => ih _ _ _ h791)))
    | 3 =>
      refine Bf_eq (by rw [f_X11_back]) ?_
      exact Bf_so hb
    | b + 4 =>
      exact Bf_eq (by rw [f_X11_back]) Bf_no
theorem kb_f_X11_count {P : Prop} : ∀ (k b : Nat) (L : LV) (σ : CS), BY P σ → Bf P (f_X11_count k b L σ) := by
  intro k
  induction k with
  | zero => intro b L σ _; exact Bf_no
  | succ k ih =>
    intro b L σ hb
    match b with
    | 0 =>
      refine Bf_eq (by rw [f_X11_count]) ?_
      exact Bf_ite (ih _ _ _ hb) (Bf_ite (ih _ _ _ hb) (Bf_ite (ih _ _ _ hb) (Bf_ite (ih _ _ _ hb) (Bf_ite (ih _ _ _ hb) (ih _ _ _ hb)))))
    | 1 =>
      refine Bf_eq (by rw [f_X11_count]) ?_
      exact Bf_so hb
    | 2 =>
      refine Bf_eq (by rw [f_X11_count]) ?_
      exact Bf_so hb
    | 3 =>
      refine Bf_eq (by rw [f_X11_count]) ?_
      exact Bf_ite (Bf_so hb) (Bf_no)
    | 4 =>
      refine Bf_eq (by rw [f_X11_count]) ?_
      exact Bf_so hb
    | 5 =>
      refine Bf_eq (by rw [f_X11_count]) ?_
      exact Bf_so hb
    | 6 =>
      refine Bf_eq (by rw [f_X11_count]) ?_
      exact Bf_so hb
    | b + 7 =>
      exact Bf_eq (by rw [f_X11_count]) Bf_no
theorem kb_f_X11_end {P : Prop} : ∀ (k b : Nat) (L : LV) (σ : CS), BY P σ → Bf P (f_X11_end k b L σ) := by
  intro k
  induction k with
  | zero => intro b L σ _; exact Bf_no
  | succ k ih =>
    intro b L σ hb
    match b with
    | 0 =>
      refine Bf_eq (by rw [f_X11_end]) ?_
      exact Bf_ite (ih _ _ _ hb) (Bf_ite (ih _ _ _ hb) (ih _ _ _ hb))
    | 1 =>
      refine Bf_eq (by rw [f_X11_end]) ?_
      exact Bf_so hb
    | 2 =>
      refine Bf_eq (by rw [f_X11_end]) ?_
      exact Bf_so (BY_I (by decide) hb)
    | b + 3 =>
      exact Bf_eq (by rw [f_X11_end]) Bf_no
theorem kb_f_X2_widen {P : Prop} : ∀ (k b : Nat) (L : LV) (σ : CS), BY P σ → Bf P (f_X2_widen k b L σ) := by
  intro k
  induction k with
  | zero => intro b L σ _; exact Bf_no
  | succ k ih =>
    intro b L σ hb
    match b with
    | 0 =>
      refine Bf_eq (by rw [f_X2_widen]) ?_
      exact Bf_ite (ih _ _ _ hb) (ih _ _ _ hb)
    | 1 =>
      refine Bf_eq (by rw [f_X2_widen]) ?_
      exact ih _ _ _ hb
    | 2 =>
      refine Bf_eq (by rw [f_X2_widen]) ?_
      exact Bf_ite (Bf_ite (Bf_ite (Bf_ad (ih _ _ _ (BY_Z ⟨fun z => absurd z (by decide), fun z => absurd z (by decide)⟩ hb))) (Bf_no)) (ih _ _ _ hb)) (Bf_no)
    | 3 =>
      refine Bf_eq (by rw [f_X2_widen]) ?_
      exact Bf_so hb
    | b + 4 =>
      exact Bf_eq (by rw [f_X2_widen]) Bf_no
theorem kb_f_X2_append {P : Prop} : ∀ (k b : Nat) (L : LV) (σ : CS), BY P σ → Bf P (f_X2_append k b L σ) := by
  intro k
  induction k with
  | zero => intro b L σ _; exact Bf_no
  | succ k ih =>
    intro b L σ hb
    match b with
    | 0 =>
      refine Bf_eq (by rw [f_X2_append]) ?_
      exact Bf_ox (kb_f_X2_widen _ _ _ _ hb) (fun _ h792 => ih _ _ _ h792)
    | 1 =>
      refine Bf_eq (by rw [f_X2_append]) ?_
      exact Bf_ite (ih _ _ _ hb) (Bf_ite (ih _ _ _ (BY_I (by decide) (BY_A (by decide) hb))) (Bf_no))
    | 2 =>
      refine Bf_eq (by rw [f_X2_append]) ?_
      exact Bf_so hb
    | b + 3 =>
      exact Bf_eq (by rw [f_X2_append]) Bf_no
theorem kb_f_X11_feed {P : Prop} : ∀ (k b : Nat) (L : LV) (σ : CS), BY P σ → Bf P (f_X11_feed k b L σ) := by
  intro k
  induction k with
  | zero => intro b L σ _; exact Bf_no
  | succ k ih =>
    intro b L σ hb
    match b with
    | 0 =>
      refine Bf_eq (by rw [f_X11_feed]) ?_
      exact Bf_ite (ih _ _ _ hb) (Bf_so hb)
    | 1 =>
      refine Bf_eq (by rw [f_X11_feed]) ?_
      exact Bf_ox (kb_f_X2_append _ _ _ _ hb) (fun _ h793 => Bf_ox (kb_f_X2_append _ _ _ _ h793) (fun _ h794 => Bf_ox (kb_f_X2_append _ _ _ _ h794) (fun _ h795 => Bf_ox (kb_f_X2_append _ _ _ _ h795) (fun _ h796 => Bf_ox (kb_f_X2_append _ _ _ _ h796) (fun _ h797 => Bf_so h797)))))
    | b + 2 =>
      exact Bf_eq (by rw [f_X11_feed]) Bf_no
theorem kb_f_X11_out {P : Prop} : ∀ (k b : Nat) (L : LV) (σ : CS), BY P σ → Bf P (f_X11_out k b L σ) := by
  intro k
  induction k with
  | zero => intro b L σ _; exact Bf_no
  | succ k ih =>
    intro b L σ hb
    match b with
    | 0 =>
      refine Bf_eq (by rw [f_X11_out]) ?_
      exact Bf_ite (ih _ _ _ hb) (Bf_ite (ih _ _ _ hb) (Bf_ite (ih _ _ _ hb) (Bf_ite (ih _ _ _ hb) (Bf_ite (ih _ _ _ hb) (ih _ _ _ hb)))))
    | 1 =>
      refine Bf_eq (by rw [f_X11_out]) ?_
      exact Bf_so hb
    | 2 =>
      refine Bf_eq (by rw [f_X11_out]) ?_
      exact Bf_ite (Bf_so hb) (Bf_no)
    | b + 3 =>
      exact Bf_eq (by rw [f_X11_out]) Bf_no
theorem kb_f_X2_rewind {P : Prop} : ∀ (k b : Nat) (L : LV) (σ : CS), BY P σ → Bf P (f_X2_rewind k b L σ) := by
  intro k
  induction k with
  | zero => intro b L σ _; exact Bf_no
  | succ k ih =>
    intro b L σ hb
    match b with
    | 0 =>
      refine Bf_eq (by rw [f_X2_rewind]) ?_
      exact Bf_ox (kb_f_X2_widen _ _ _ _ hb) (fun _ h798 => Bf_ite (Bf_ite (ih _ _ _ (BY_I (by decide) (BY_A (by decide) (BY_A (by decide) h798)))) (Bf_no)) (Bf_no))
    | 1 =>
      refine Bf_eq (by rw [f_X2_rewind]) ?_
      exact Bf_so hb
    | b + 2 =>
      exact Bf_eq (by rw [f_X2_rewind]) Bf_no
theorem kb_f_X2_advance {P : Prop} : ∀ (k b : Nat) (L : LV) (σ : CS), BY P σ → Bf P (f_X2_advance k b L σ) := by
  intro k
  induction k with
  | zero => intro b L σ _; exact Bf_no
  | succ k ih =>
    intro b L σ hb
    match b with
    | 0 =>
      refine Bf_eq (by rw [f_X2_advance]) ?_
      exact ih _ _ _ hb
    | 1 =>
      refine Bf_eq (by rw [f_X2_advance]) ?_
      exact Bf_ite (ih _ _ _ hb) (Bf_ite (ih _ _ _ hb) (Bf_ite (Bf_ite (ih _ _ _ hb) (Bf_ite (ih _ _ _ hb) (ih _ _ _ hb))) (Bf_no)))
    | 2 =>
      refine Bf_eq (by rw [f_X2_advance]) ?_
      exact Bf_ite (ih _ _ _ (BY_I (by decide) hb)) (ih _ _ _ (BY_I (by decide) hb))
    | 3 =>
      refine Bf_eq (by rw [f_X2_advance]) ?_
      exact Bf_ite (Bf_ite (Bf_ite (ih _ _ _ hb) (ih _ _ _ hb)) (Bf_no)) (ih _ _ _ hb)
    | 4 =>
      refine Bf_eq (by rw [f_X2_advance]) ?_
      exact ih _ _ _ hb
    | 5 =>
      refine Bf_eq (by rw [f_X2_advance]) ?_
      exact Bf_ite (Bf_ite (ih _ _ _ hb) (Bf_ite (Bf_ite (ih _ _ _ hb) (ih _ _ _ hb)) (Bf_no))) (ih _ _ _ hb)
    | 6 =>
      refine Bf_eq (by rw [f_X2_advance]) ?_
      exact ih _ _ _ hb
    | 7 =>
      refine Bf_eq (by rw [f_X2_advance]) ?_
      exact Bf_ite (ih _ _ _ (BY_I (by decide) hb)) (ih _ _ _ (BY_I (by decide) hb))
    | 8 =>
      refine Bf_eq (by rw [f_X2_advance]) ?_
      exact ih _ _ _ hb
    | 9 =>
      refine Bf_eq (by rw [f_X2_advance]) ?_
      exact ih _ _ _ hb
    | 10 =>
      refine Bf_eq (by rw [f_X2_advance]) ?_
      exact ih _ _ _ hb
    | 11 =>
      refine Bf_eq (by rw [f_X2_advance]) ?_
      exact Bf_ite (Bf_ite (ih _ _ _ hb) (ih _ _ _ hb)) (Bf_no)
    | 12 =>
      refine Bf_eq (by rw [f_X2_advance]) ?_
      exact Bf_ite (Bf_ite (ih _ _ _ (BY_L (BY_L (BY_I (by decide) hb)))) (ih _ _ _ (BY_I (by decide) hb))) (Bf_no)
    | 13 =>
      refine Bf_eq (by rw [f_X2_advance]) ?_
      exact Bf_ite (ih _ _ _ hb) (ih _ _ _ hb)
    | 14 =>
      refine Bf_eq (by rw [f_X2_advance]) ?_
      exact Bf_ite (Bf_ite (ih _ _ _ hb) (Bf_no)) (Bf_no)
    | 15 =>
      refine Bf_eq (by rw [f_X2_advance]) ?_
      exact Bf_ite (ih _ _ _ hb) (ih _ _ _ hb)
    | 16 =>
      refine Bf_eq (by rw [f_X2_advance]) ?_
      exact ih _ _ _ hb
    | 17 =>
      refine Bf_eq (by rw [f_X2_advance]) ?_
      exact ih _ _ _ hb
    | 18 =>
      refine Bf_eq (by rw [f_X2_advance]) ?_
      exact ih _ _ _ hb
    | 19 =>
      refine Bf_eq (by rw [f_X2_advance]) ?_
      exact Bf_ite (ih _ _ _ hb) (ih _ _ _ hb)
    | 20 =>
      refine Bf_eq (by rw [f_X2_advance]) ?_
      exact Bf_ite (ih _ _ _ hb) (Bf_ite (Bf_ite (ih _ _ _ hb) (Bf_ite (Bf_ite (ih _ _ _ hb) (ih _ _ _ (BY_I (by decide) hb))) (Bf_no))) (Bf_no))
    | 21 =>
      refine Bf_eq (by rw [f_X2_advance]) ?_
      exact Bf_ite (ih _ _ _ hb) (Bf_ite (ih _ _ _ hb) (Bf_ite (ih _ _ _ hb) (Bf_ite (ih _ _ _ hb) (ih _ _ _ hb))))
    | 22 =>
      refine Bf_eq (by rw [f_X2_advance]) ?_
      exact Bf_ite (Bf_ite (ih _ _ _ hb) (Bf_ite (ih _ _ _ hb) (Bf_ite (ih _ _ _ hb) (Bf_ite (ih _ _ _ hb) (ih _ _ _ hb))))) (ih _ _ _ hb)
    | 23 =>
      refine Bf_eq (by rw [f_X2_advance]) ?_
      exact Bf_ite (ih _ _ _ hb) (Bf_ite (Bf_ite (ih _ _ _ hb) (Bf_ite (Bf_ite (ih _ _ _ hb) (ih _ _ _ (BY_I (by decide) hb))) (Bf_no))) (Bf_no))
    | 24 =>
      refine Bf_eq (by rw [f_X2_advance]) ?_
      exact Bf_ite (ih _ _ _ hb) (ih _ _ _ hb)
    | 25 =>
      refine Bf_eq (by rw [f_X2_advance]) ?_
      exact Bf_ite (ih _ _ _ hb) (ih _ _ _ hb)
    | 26 =>
      refine Bf_eq (by rw [f_X2_advance]) ?_
      exact Bf_ite (ih _ _ _ hb) (Bf_ite (ih _ _ _ hb) (Bf_no))
    | 27 =>
      refine Bf_eq (by rw [f_X2_advance]) ?_
      exact Bf_ite (Bf_ite (ih _ _ _ hb) (ih _ _ _ hb)) (ih _ _ _ hb)
    | 28 =>
      refine Bf_eq (by rw [f_X2_advance]) ?_
      exact Bf_ite (ih _ _ _ hb) (ih _ _ _ hb)
    | 29 =>
      refine Bf_eq (by rw [f_X2_advance]) ?_
      exact Bf_ite (ih _ _ _ hb) (Bf_ite (Bf_ite (Bf_ite (ih _ _ _ hb) (ih _ _ _ hb)) (ih _ _ _ hb)) (Bf_no))
    | 30 =>
      refine Bf_eq (by rw [f_X2_advance]) ?_
      exact ih _ _ _ hb
    | 31 =>
      refine Bf_eq (by rw [f_X2_advance]) ?_
      exact ih _ _ _ (BY_I (by decide) hb)
    | 32 =>
      refine Bf_eq (by rw [f_X2_advance]) ?_
      exact ih _ _ _ hb
    | 33 =>
      refine Bf_eq (by rw [f_X2_advance]) ?_
      exact ih _ _ _ (BY_I (by decide) hb)
    | 34 =>
      refine Bf_eq (by rw [f_X2_advance]) ?_
      exact ih _ _ _ hb
    | 35 =>
      refine Bf_eq (by rw [f_X2_advance]) ?_
      exact Bf_ite (ih _ _ _ (BY_L hb)) (ih _ _ _ (BY_L hb))
    | 36 =>
      refine Bf_eq (by rw [f_X2_advance]) ?_
      exact Bf_ite (Bf_ite (ih _ _ _ hb) (ih _ _ _ hb)) (ih _ _ _ hb)
    | 37 =>
      refine Bf_eq (by rw [f_X2_advance]) ?_
      exact Bf_ite (ih _ _ _ hb) (ih _ _ _ hb)
    | 38 =>
      refine Bf_eq (by rw [f_X2_advance]) ?_
      exact Bf_ite (ih _ _ _ hb) (ih _ _ _ hb)
    | 39 =>
      refine Bf_eq (by rw [f_X2_advance]) ?_
      exact ih _ _ _ (BY_I (by decide) (BY_I (by decide) hb))
    | 40 =>
      refine Bf_eq (by rw [f_X2_advance]) ?_
      exact ih _ _ _ hb
    | 41 =>
      refine Bf_eq (by rw [f_X2_advance]) ?_
      exact ih _ _ _ (BY_I (by decide) (BY_I (by decide) hb))
    | 42 =>
      refine Bf_eq (by rw [f_X2_advance]) ?_
      exact Bf_ite (ih _ _ _ hb) (Bf_ite (ih _ _ _ hb) (Bf_ite (ih _ _ _ hb) (ih _ _ _ hb)))
    | 43 =>
      refine Bf_eq (by rw [f_X2_advance]) ?_
      exact Bf_ite (ih _ _ _ hb) (Bf_ite (ih _ _ _ hb) (Bf_ite (Bf_ite (ih _ _ _ hb) (ih _ _ _ hb)) (Bf_no)))
    | 44 =>
      refine Bf_eq (by rw [f_X2_advance]) ?_
      exact Bf_ite (ih _ _ _ hb) (Bf_no)
    | 45 =>
      refine Bf_eq (by rw [f_X2_advance]) ?_
      exact Bf_ite (Bf_ite (ih _ _ _ (BY_I (by decide) (BY_L hb))) (ih _ _ _ (BY_I (by decide) (BY_L hb)))) (Bf_no)
    | 46 =>
      refine Bf_eq (by rw [f_X2_advance]) ?_
      exact ih _ _ _ hb
    | 47 =>
      refine Bf_eq (by rw [f_X2_advance]) ?_
      exact ih _ _ _ (BY_I (by decide) (BY_I (by decide) hb))
    | 48 =>
      refine Bf_eq (by rw [f_X2_advance]) ?_
      exact ih _ _ _ hb
    | 49 =>
      refine Bf_eq (by rw [f_X2_advance]) ?_
      exact Bf_so hb
    | 50 =>
      refine Bf_eq (by rw [f_X2_advance]) ?_
      exact Bf_so hb
    | 51 =>
      refine Bf_eq (by rw [f_X2_advance]) ?_
      exact ih _ _ _ hb
    | 52 =>
      refine Bf_eq (by rw [f_X2_advance]) ?_
      exact ih _ _ _ hb
    | 53 =>
      refine Bf_eq (by rw [f_X2_advance]) ?_
      exact ih _ _ _ (BY_I (by decide) hb)
    | 54 =>
      refine Bf_eq (by rw [f_X2_advance]) ?_
      exact Bf_ite (Bf_ite (ih _ _ _ hb) (Bf_no)) (Bf_no)
    | 55 =>
      refine Bf_eq (by rw [f_X2_advance]) ?_
      exact ih _ _ _ hb
    | b + 56 =>
      exact Bf_eq (by rw [f_X2_advance]) Bf_no
theorem kb_f_X5_refuse {P : Prop} : ∀ (k b : Nat) (L : LV) (σ : CS), BY P σ → Bf P (f_X5_refuse k b L σ) := by
  intro k
  induction k with
  | zero => intro b L σ _; exact Bf_no
  | succ k ih =>
    intro b L σ hb
    match b with
    | 0 =>
      refine Bf_eq (by rw [f_X5_refuse]) ?_
      exact Bf_so (BY_I (by decide) (BY_I (by decide) hb))
    | b + 1 =>
      exact Bf_eq (by rw [f_X5_refuse]) Bf_no
theorem kb_f_X5_checkName {P : Prop} : ∀ (k b : Nat) (L : LV) (σ : CS), BY P σ → Bf P (f_X5_checkName k b L σ) := by
  intro k
  induction k with
  | zero => intro b L σ _; exact Bf_no
  | succ k ih =>
    intro b L σ hb
    match b with
    | 0 =>
      refine Bf_eq (by rw [f_X5_checkName]) ?_
      exact Bf_ite (ih _ _ _ hb) (Bf_ox (kb_f_X5_refuse _ _ _ _ hb) (fun _ h799 => ih _ _ _ h799))
    | 1 =>
      refine Bf_eq (by rw [f_X5_checkName]) ?_
      exact Bf_oP (fun _ => Bf_op (kb_y_X7_isToldFrom__P _ _ _ _ hb) (fun _ h800 => Bf_ite (ih _ _ _ h800) (Bf_ox (kb_f_X5_refuse _ _ _ _ h800) (fun _ h801 => ih _ _ _ h801))))
    | 2 =>
      refine Bf_eq (by rw [f_X5_checkName]) ?_
      exact Bf_oP (fun _ => Bf_ite (Bf_ite (ih _ _ _ hb) (Bf_ox (kb_f_X5_refuse _ _ _ _ hb) (fun _ h802 => ih _ _ _ h802))) (Bf_no))
    | 3 =>
      refine Bf_eq (by rw [f_X5_checkName]) ?_
      exact Bf_oP (fun _ => Bf_ite (Bf_ite (Bf_so (BY_A (nB_16 _) hb)) (Bf_no)) (Bf_no))
    | b + 4 =>
      exact Bf_eq (by rw [f_X5_checkName]) Bf_no
theorem kb_f_X5_tellVariable {P : Prop} : ∀ (k b : Nat) (L : LV) (σ : CS), BY P σ → Bf P (f_X5_tellVariable k b L σ) := by
  intro k
  induction k with
  | zero => intro b L σ _; exact Bf_no
  | succ k ih =>
    intro b L σ hb
    match b with
    | 0 =>
      refine Bf_eq (by rw [f_X5_tellVariable]) ?_
      exact Bf_ox (kb_f_X5_checkName _ _ _ _ hb) (fun _ h803 => Bf_oP (fun _ => Bf_ite (Bf_ite (Bf_oP (fun _ => Bf_oP (fun _ => Bf_op (kb_y_X7_newSlots__P _ _ _ _ (BY_A (nB_17 _) h803)) (fun _ h804 => Bf_op (kb_y_X7_tell__P _ _ _ _ h804) (fun _ h805 => Bf_ox (kb_f_X2_advance _ _ _ _ h805) (fun _ h806 => Bf_so h806)))))) (Bf_no)) (Bf_no)))
    | b + 1 =>
      exact Bf_eq (by rw [f_X5_tellVariable]) Bf_no
theorem kb_f_X5_expect {P : Prop} : ∀ (k b : Nat) (L : LV) (σ : CS), BY P σ → Bf P (f_X5_expect k b L σ) := by
  intro k
  induction k with
  | zero => intro b L σ _; exact Bf_no
  | succ k ih =>
    intro b L σ hb
    match b with
    | 0 =>
      refine Bf_eq (by rw [f_X5_expect]) ?_
      exact Bf_ite (ih _ _ _ hb) (Bf_ox (kb_f_X5_refuse _ _ _ _ hb) (fun _ h807 => ih _ _ _ h807))
    | 1 =>
      refine Bf_eq (by rw [f_X5_expect]) ?_
      exact Bf_ox (kb_f_X2_advance _ _ _ _ hb) (fun _ h808 => Bf_so h808)
    | b + 2 =>
      exact Bf_eq (by rw [f_X5_expect]) Bf_no
theorem kb_f_X5_variables {P : Prop} : ∀ (k b : Nat) (L : LV) (σ : CS), BY P σ → Bf P (f_X5_variables k b L σ) := by
  intro k
  induction k with
  | zero => intro b L σ _; exact Bf_no
  | succ k ih =>
    intro b L σ hb
    match b with
    | 0 =>
      refine Bf_eq (by rw [f_X5_variables]) ?_
      exact Bf_ox (kb_f_X2_advance _ _ _ _ hb) (fun _ h809 => Bf_ox (kb_f_X5_tellVariable _ _ _ _ h809) (fun _ h810 => ih _ _ _ h810))
    | 1 =>
      refine Bf_eq (by rw [f_X5_variables]) ?_
      exact Bf_ite (ih _ _ _ hb) (Bf_ite (Bf_ox (kb_f_X2_advance _ _ _ _ hb) (fun _ h811 => Bf_ox (kb_f_X5_tellVariable _ _ _ _ h811) (fun _ h812 => ih _ _ _ h812))) (ih _ _ _ hb))
    | 2 =>
      refine Bf_eq (by rw [f_X5_variables]) ?_
      exact Bf_ox (kb_f_X5_expect _ _ _ _ hb) (fun _ h813 => Bf_so h813)
    | b + 3 =>
      exact Bf_eq (by rw [f_X5_variables]) Bf_no
theorem kb_f_X5_want {P : Prop} : ∀ (k b : Nat) (L : LV) (σ : CS), BY P σ → Bf P (f_X5_want k b L σ) := by
  intro k
  induction k with
  | zero => intro b L σ _; exact Bf_no
  | succ k ih =>
    intro b L σ hb
    match b with
    | 0 =>
      refine Bf_eq (by rw [f_X5_want]) ?_
      exact Bf_ite (ih _ _ _ hb) (Bf_ox (kb_f_X5_refuse _ _ _ _ hb) (fun _ h814 => ih _ _ _ h814))
    | 1 =>
      refine Bf_eq (by rw [f_X5_want]) ?_
      exact Bf_so hb
    | b + 2 =>
      exact Bf_eq (by rw [f_X5_want]) Bf_no
theorem kb_f_X5_opens {P : Prop} : ∀ (k b : Nat) (L : LV) (σ : CS), BY P σ → Bf P (f_X5_opens k b L σ) := by
  intro k
  induction k with
  | zero => intro b L σ _; exact Bf_no
  | succ k ih =>
    intro b L σ hb
    match b with
    | 0 =>
      refine Bf_eq (by rw [f_X5_opens]) ?_
      exact Bf_ite (ih _ _ _ hb) (Bf_ox (kb_f_X5_refuse _ _ _ _ hb) (fun _ h815 => ih _ _ _ h815))
    | 1 =>
      refine Bf_eq (by rw [f_X5_opens]) ?_
      exact Bf_ox (kb_f_X2_advance _ _ _ _ (BY_I (by decide) hb)) (fun _ h816 => Bf_so h816)
    | b + 2 =>
      exact Bf_eq (by rw [f_X5_opens]) Bf_no
theorem kb_f_X5_tellUnit {P : Prop} : ∀ (k b : Nat) (L : LV) (σ : CS), BY P σ → Bf P (f_X5_tellUnit k b L σ) := by
  intro k
  induction k with
  | zero => intro b L σ _; exact Bf_no
  | succ k ih =>
    intro b L σ hb
    match b with
    | 0 =>
      refine Bf_eq (by rw [f_X5_tellUnit]) ?_
      exact Bf_ox (kb_f_X2_advance _ _ _ _ hb) (fun _ h817 => Bf_ox (kb_f_X5_want _ _ _ _ h817) (fun _ h818 => Bf_oP (fun _ => Bf_op (kb_y_X7_isToldFrom__P _ _ _ _ h818) (fun _ h819 => Bf_ite (ih _ _ _ h819) (Bf_ox (kb_f_X5_refuse _ _ _ _ h819) (fun _ h820 => ih _ _ _ h820))))))
    | 1 =>
      refine Bf_eq (by rw [f_X5_tellUnit]) ?_
      exact Bf_oP (fun _ => Bf_ite (ih _ _ _ hb) (Bf_ox (kb_f_X5_refuse _ _ _ _ hb) (fun _ h821 => ih _ _ _ h821)))
    | 2 =>
      refine Bf_eq (by rw [f_X5_tellUnit]) ?_
      exact Bf_oP (fun _ => Bf_oP (fun _ => Bf_oP (fun _ => Bf_op (kb_y_X7_openUnit__P _ _ _ _ (BY_I (by decide) (BY_I (nF_P _ (by decide)) hb))) (fun _ h822 => Bf_oP (fun _ => Bf_op (kb_y_X7_tell__P _ _ _ _ h822) (fun _ h823 => Bf_ox (kb_f_X2_advance _ _ _ _ h823) (fun _ h824 => Bf_ox (kb_f_X5_want _ _ _ _ h824) (fun _ h825 => Bf_ox (kb_f_X5_opens _ _ _ _ h825) (fun _ h826 => Bf_oP (fun _ => Bf_so h826))))))))))
    | b + 3 =>
      exact Bf_eq (by rw [f_X5_tellUnit]) Bf_no
theorem kb_f_X5_parameter {P : Prop} : ∀ (k b : Nat) (L : LV) (σ : CS), BY P σ → Bf P (f_X5_parameter k b L σ) := by
  intro k
  induction k with
  | zero => intro b L σ _; exact Bf_no
  | succ k ih =>
    intro b L σ hb
    match b with
    | 0 =>
      refine Bf_eq (by rw [f_X5_parameter]) ?_
      exact Bf_ox (kb_f_X5_want _ _ _ _ hb) (fun _ h827 => Bf_oP (fun _ => Bf_op (kb_y_X7_isToldFrom__P _ _ _ _ h827) (fun _ h828 => Bf_ite (ih _ _ _ h828) (Bf_ox (kb_f_X5_refuse _ _ _ _ h828) (fun _ h829 => ih _ _ _ h829)))))
    | 1 =>
      refine Bf_eq (by rw [f_X5_parameter]) ?_
      exact Bf_oP (fun _ => Bf_ite (Bf_ite (ih _ _ _ hb) (Bf_ox (kb_f_X5_refuse _ _ _ _ hb) (fun _ h830 => ih _ _ _ h830))) (Bf_no))
    | 2 =>
      refine Bf_eq (by rw [f_X5_parameter]) ?_
      exact Bf_ox (kb_f_X5_tellVariable _ _ _ _ hb) (fun _ h831 => Bf_oP (fun _ => Bf_ite (Bf_ite (Bf_so (BY_A (nB_14 _) h831)) (Bf_no)) (Bf_no)))
    | b + 3 =>
      exact Bf_eq (by rw [f_X5_parameter]) Bf_no
theorem kb_f_X5_closes {P : Prop} : ∀ (k b : Nat) (L : LV) (σ : CS), BY P σ → Bf P (f_X5_closes k b L σ) := by
  intro k
  induction k with
  | zero => intro b L σ _; exact Bf_no
  | succ k ih =>
    intro b L σ hb
    match b with
    | 0 =>
      refine Bf_eq (by rw [f_X5_closes]) ?_
      exact Bf_ite (ih _ _ _ hb) (Bf_ox (kb_f_X5_refuse _ _ _ _ hb) (fun _ h832 => ih _ _ _ h832))
    | 1 =>
      refine Bf_eq (by rw [f_X5_closes]) ?_
      exact Bf_ox (kb_f_X2_advance _ _ _ _ (BY_I (by decide) hb)) (fun _ h833 => Bf_so h833)
    | b + 2 =>
      exact Bf_eq (by rw [f_X5_closes]) Bf_no
theorem kb_f_X5_widenMarks {P : Prop} : ∀ (k b : Nat) (L : LV) (σ : CS), BY P σ → Bf P (f_X5_widenMarks k b L σ) := by
  intro k
  induction k with
  | zero => intro b L σ _; exact Bf_no
  | succ k ih =>
    intro b L σ hb
    match b with
    | 0 =>
      refine Bf_eq (by rw [f_X5_widenMarks]) ?_
      exact Bf_ite (ih _ _ _ hb) (Bf_ite (ih _ _ _ hb) (Bf_ite (Bf_ite (Bf_ad (ih _ _ _ (BY_Z ⟨fun z => absurd z (by decide), fun z => absurd z (by decide)⟩ hb))) (Bf_no)) (Bf_no)))
    | 1 =>
      refine Bf_eq (by rw [f_X5_widenMarks]) ?_
      exact Bf_ite (ih _ _ _ hb) (Bf_so hb)
    | 2 =>
      refine Bf_eq (by rw [f_X5_widenMarks]) ?_
      exact Bf_so hb
    | b + 3 =>
      exact Bf_eq (by rw [f_X5_widenMarks]) Bf_no
theorem kb_f_X5_postpone {P : Prop} : ∀ (k b : Nat) (L : LV) (σ : CS), BY P σ → Bf P (f_X5_postpone k b L σ) := by
  intro k
  induction k with
  | zero => intro b L σ _; exact Bf_no
  | succ k ih =>
    intro b L σ hb
    match b with
    | 0 =>
      refine Bf_eq (by rw [f_X5_postpone]) ?_
      exact Bf_ox (kb_f_X5_widenMarks _ _ _ _ hb) (fun _ h834 => Bf_ite (Bf_ite (Bf_ite (ih _ _ _ (BY_A (by decide) (BY_A (by decide) (BY_A (by decide) h834)))) (Bf_no)) (Bf_no)) (Bf_no))
    | 1 =>
      refine Bf_eq (by rw [f_X5_postpone]) ?_
      exact Bf_so (BY_I (by decide) hb)
    | b + 2 =>
      exact Bf_eq (by rw [f_X5_postpone]) Bf_no
theorem kb_f_X5_prefix {P : Prop} : ∀ (k b : Nat) (L : LV) (σ : CS), BY P σ → Bf P (f_X5_prefix k b L σ) := by
  intro k
  induction k with
  | zero => intro b L σ _; exact Bf_no
  | succ k ih =>
    intro b L σ hb
    match b with
    | 0 =>
      refine Bf_eq (by rw [f_X5_prefix]) ?_
      exact Bf_ite (Bf_ite (ih _ _ _ hb) (ih _ _ _ hb)) (ih _ _ _ hb)
    | 1 =>
      refine Bf_eq (by rw [f_X5_prefix]) ?_
      exact ih _ _ _ hb
    | 2 =>
      refine Bf_eq (by rw [f_X5_prefix]) ?_
      exact Bf_op (kb_y_X5_postponedLevel _ _ _ _ hb) (fun _ h835 => ih _ _ _ h835)
    | 3 =>
      refine Bf_eq (by rw [f_X5_prefix]) ?_
      exact Bf_ite (ih _ _ _ hb) (ih _ _ _ hb)
    | 4 =>
      refine Bf_eq (by rw [f_X5_prefix]) ?_
      exact Bf_ite (ih _ _ _ hb) (ih _ _ _ hb)
    | 5 =>
      refine Bf_eq (by rw [f_X5_prefix]) ?_
      exact Bf_ite (ih _ _ _ hb) (ih _ _ _ hb)
    | 6 =>
      refine Bf_eq (by rw [f_X5_prefix]) ?_
      exact Bf_ite (Bf_ite (Bf_ite (ih _ _ _ hb) (Bf_ite (ih _ _ _ hb) (Bf_so hb))) (ih _ _ _ hb)) (ih _ _ _ hb)
    | 7 =>
      refine Bf_eq (by rw [f_X5_prefix]) ?_
      exact Bf_ite (ih _ _ _ hb) (ih _ _ _ hb)
    | 8 =>
      refine Bf_eq (by rw [f_X5_prefix]) ?_
      exact Bf_ite (ih _ _ _ hb) (Bf_ox (kb_f_X5_refuse _ _ _ _ hb) (fun _ h836 => ih _ _ _ h836))
    | 9 =>
      refine Bf_eq (by rw [f_X5_prefix]) ?_
      exact Bf_ite (ih _ _ _ hb) (ih _ _ _ hb)
    | 10 =>
      refine Bf_eq (by rw [f_X5_prefix]) ?_
      exact Bf_ox (kb_f_X2_advance _ _ _ _ (BY_I (by decide) hb)) (fun _ h837 => Bf_ite (ih _ _ _ h837) (Bf_ox (kb_f_X5_postpone _ _ _ _ h837) (fun _ h838 => ih _ _ _ h838)))
    | 11 =>
      refine Bf_eq (by rw [f_X5_prefix]) ?_
      exact ih _ _ _ hb
    | 12 =>
      refine Bf_eq (by rw [f_X5_prefix]) ?_
      exact Bf_ite (Bf_ite (ih _ _ _ hb) (ih _ _ _ hb)) (ih _ _ _ hb)
    | 13 =>
      refine Bf_eq (by rw [f_X5_prefix]) ?_
      exact Bf_so hb
    | 14 =>
      refine Bf_eq (by rw [f_X5_prefix]) ?_
      exact Bf_ox (kb_f_X5_expect _ _ _ _ hb) (fun _ h839 => Bf_ox (kb_f_X5_postpone _ _ _ _ h839) (fun _ h840 => ih _ _ _ h840))
    | 15 =>
      refine Bf_eq (by rw [f_X5_prefix]) ?_
      exact ih _ _ _ hb
    | 16 =>
      refine Bf_eq (by rw [f_X5_prefix]) ?_
      exact Bf_ox (kb_f_X5_postpone _ _ _ _ hb) (fun _ h841 => ih _ _ _ h841)
    | b + 17 =>
      exact Bf_eq (by rw [f_X5_prefix]) Bf_no
theorem kb_f_X5_takenName {P : Prop} : ∀ (k b : Nat) (L : LV) (σ : CS), BY P σ → Bf P (f_X5_takenName k b L σ) := by
  intro k
  induction k with
  | zero => intro b L σ _; exact Bf_no
  | succ k ih =>
    intro b L σ hb
    match b with
    | 0 =>
      refine Bf_eq (by rw [f_X5_takenName]) ?_
      exact Bf_ox (kb_f_X2_advance _ _ _ _ hb) (fun _ h842 => Bf_oP (fun _ => Bf_op (kb_y_X7_found__P _ _ _ _ h842) (fun _ h843 => Bf_so h843)))
    | b + 1 =>
      exact Bf_eq (by rw [f_X5_takenName]) Bf_no
theorem kb_f_X7_widen__P {P : Prop} : ∀ (k b : Nat) (L : LV) (σ : CS), BY P σ → Bf P (f_X7_widen__P k b L σ) := by
  intro k
  induction k with
  | zero => intro b L σ _; exact Bf_no
  | succ k ih =>
    intro b L σ hb
    match b with
    | 0 =>
      refine Bf_eq (by rw [f_X7_widen__P]) ?_
      exact Bf_ite (ih _ _ _ hb) (Bf_ite (ih _ _ _ hb) (Bf_ite (Bf_ite (Bf_ad (ih _ _ _ (BY_C hb))) (Bf_no)) (Bf_no)))
    | 1 =>
      refine Bf_eq (by rw [f_X7_widen__P]) ?_
      exact Bf_ite (ih _ _ _ hb) (Bf_so hb)
    | 2 =>
      refine Bf_eq (by rw [f_X7_widen__P]) ?_
      exact Bf_so hb
    | b + 3 =>
      exact Bf_eq (by rw [f_X7_widen__P]) Bf_no
theorem kb_f_X7_emit__P {P : Prop} : ∀ (k b : Nat) (L : LV) (σ : CS), BY P σ → Bf P (f_X7_emit__P k b L σ) := by
  intro k
  induction k with
  | zero => intro b L σ _; exact Bf_no
  | succ k ih =>
    intro b L σ hb
    match b with
    | 0 =>
      refine Bf_eq (by rw [f_X7_emit__P]) ?_
      exact Bf_ox (kb_f_X7_widen__P _ _ _ _ hb) (fun _ h844 => Bf_ite (Bf_so (BY_I (nF_P _ (by decide)) (BY_A (nB_0 _) h844))) (Bf_no))
    | b + 1 =>
      exact Bf_eq (by rw [f_X7_emit__P]) Bf_no
theorem kb_f_X7_word__P {P : Prop} : ∀ (k b : Nat) (L : LV) (σ : CS), BY P σ → Bf P (f_X7_word__P k b L σ) := by
  intro k
  induction k with
  | zero => intro b L σ _; exact Bf_no
  | succ k ih =>
    intro b L σ hb
    match b with
    | 0 =>
      refine Bf_eq (by rw [f_X7_word__P]) ?_
      exact Bf_ox (kb_f_X7_widen__P _ _ _ _ hb) (fun _ h845 => Bf_ite (Bf_so (BY_I (nF_P _ (by decide)) (BY_A (nB_0 _) h845))) (Bf_no))
    | b + 1 =>
      exact Bf_eq (by rw [f_X7_word__P]) Bf_no
theorem kb_y_X10_readDigits__z38 {P : Prop} : ∀ (k b : Nat) (L : LV) (σ : CS), BY P σ → By P (y_X10_readDigits__z38 k b L σ) := by
  intro k
  induction k with
  | zero => intro b L σ _; exact By_no
  | succ k ih =>
    intro b L σ hb
    match b with
    | 0 =>
      refine By_eq (by rw [y_X10_readDigits__z38]) ?_
      exact ih _ _ _ hb
    | 1 =>
      refine By_eq (by rw [y_X10_readDigits__z38]) ?_
      exact By_ite (ih _ _ _ hb) (By_ite (ih _ _ _ hb) (By_no))
    | 2 =>
      refine By_eq (by rw [y_X10_readDigits__z38]) ?_
      exact By_so (BY_I (by decide) hb)
    | 3 =>
      refine By_eq (by rw [y_X10_readDigits__z38]) ?_
      exact By_ite (ih _ _ _ hb) (By_ite (By_ite (ih _ _ _ (BY_A (by decide) hb)) (By_no)) (By_no))
    | 4 =>
      refine By_eq (by rw [y_X10_readDigits__z38]) ?_
      exact By_ite (ih _ _ _ hb) (By_ite (ih _ _ _ hb) (By_ite (ih _ _ _ (BY_A (by decide) hb)) (By_no)))
    | 5 =>
      refine By_eq (by rw [y_X10_readDigits__z38]) ?_
      exact ih _ _ _ hb
    | b + 6 =>
      exact By_eq (by rw [y_X10_readDigits__z38]) By_no
theorem kb_f_X5_number {P : Prop} : ∀ (k b : Nat) (L : LV) (σ : CS), BY P σ → Bf P (f_X5_number k b L σ) := by
  intro k
  induction k with
  | zero => intro b L σ _; exact Bf_no
  | succ k ih =>
    intro b L σ hb
    match b with
    | 0 =>
      refine Bf_eq (by rw [f_X5_number]) ?_
      exact Bf_op (kb_y_X10_readDigits__z38 _ _ _ _ hb) (fun _ h846 => Bf_op (kb_y_X10_resultLimb _ _ _ _ h846) (fun _ h847 => Bf_ite (ih _ _ _ h847) (Bf_ite (Bf_ite (ih _ _ _ h847) (Bf_ite (ih _ _ _ h847) (ih _ _ _ h847))) (ih _ _ _ h847))))
    | 1 =>
      refine Bf_eq (by rw [f_X5_number]) ?_
      exact Bf_oP (fun _ => Bf_ox (kb_f_X7_emit__P _ _ _ _ hb) (fun _ h848 => Bf_oP (fun _ => Bf_op (kb_y_X10_small _ _ _ _ h848) (fun _ h849 => Bf_ox (kb_f_X7_word__P _ _ _ _ h849) (fun _ h850 => ih _ _ _ h850)))))
    | 2 =>
      refine Bf_eq (by rw [f_X5_number]) ?_
      exact Bf_oP (fun _ => Bf_ox (kb_f_X7_emit__P _ _ _ _ hb) (fun _ h851 => Bf_oP (fun _ => Bf_op (kb_y_X1_header _ _ _ _ h851) (fun _ h852 => Bf_ox (kb_f_X7_word__P _ _ _ _ h852) (fun _ h853 => ih _ _ _ h853)))))
    | 3 =>
      refine Bf_eq (by rw [f_X5_number]) ?_
      exact Bf_ox (kb_f_X2_advance _ _ _ _ hb) (fun _ h854 => Bf_so h854)
    | 4 =>
      refine Bf_eq (by rw [f_X5_number]) ?_
      exact Bf_ite (ih _ _ _ hb) (Bf_oP (fun _ => Bf_op (kb_y_X10_resultLimb _ _ _ _ hb) (fun _ h855 => Bf_ox (kb_f_X7_word__P _ _ _ _ h855) (fun _ h856 => ih _ _ _ h856))))
    | b + 5 =>
      exact Bf_eq (by rw [f_X5_number]) Bf_no
theorem kb_f_X5_string {P : Prop} : ∀ (k b : Nat) (L : LV) (σ : CS), BY P σ → Bf P (f_X5_string k b L σ) := by
  intro k
  induction k with
  | zero => intro b L σ _; exact Bf_no
  | succ k ih =>
    intro b L σ hb
    match b with
    | 0 =>
      refine Bf_eq (by rw [f_X5_string]) ?_
      exact Bf_ite (ih _ _ _ hb) (Bf_oP (fun _ => Bf_ox (kb_f_X7_emit__P _ _ _ _ hb) (fun _ h857 => Bf_oP (fun _ => Bf_ite (ih _ _ _ h857) (ih _ _ _ h857)))))
    | 1 =>
      refine Bf_eq (by rw [f_X5_string]) ?_
      exact Bf_oP (fun _ => Bf_ox (kb_f_X7_emit__P _ _ _ _ hb) (fun _ h858 => Bf_oP (fun _ => Bf_op (kb_y_X1_header _ _ _ _ h858) (fun _ h859 => Bf_ox (kb_f_X7_word__P _ _ _ _ h859) (fun _ h860 => ih _ _ _ h860)))))
    | 2 =>
      refine Bf_eq (by rw [f_X5_string]) ?_
      exact Bf_ite (ih _ _ _ hb) (Bf_no)
    | 3 =>
      refine Bf_eq (by rw [f_X5_string]) ?_
      exact Bf_ox (kb_f_X7_word__P _ _ _ _ hb) (fun _ h861 => ih _ _ _ h861)
    | 4 =>
      refine Bf_eq (by rw [f_X5_string]) ?_
      exact Bf_ite (ih _ _ _ hb) (Bf_oP (fun _ => Bf_ox (kb_f_X7_word__P _ _ _ _ hb) (fun _ h862 => ih _ _ _ h862)))
    | 5 =>
      refine Bf_eq (by rw [f_X5_string]) ?_
      exact Bf_ox (kb_f_X2_advance _ _ _ _ hb) (fun _ h863 => Bf_so h863)
    | 6 =>
      refine Bf_eq (by rw [f_X5_string]) ?_
      exact ih _ _ _ hb
    | 7 =>
      refine Bf_eq (by rw [f_X5_string]) ?_
      exact Bf_ite (ih _ _ _ hb) (Bf_oP (fun _ => Bf_ite (Bf_ite (Bf_ite (ih _ _ _ (BY_A (nB_0 _) hb)) (Bf_no)) (Bf_no)) (Bf_no)))
    | b + 8 =>
      exact Bf_eq (by rw [f_X5_string]) Bf_no
theorem kb_f_X5_push {P : Prop} : ∀ (k b : Nat) (L : LV) (σ : CS), BY P σ → Bf P (f_X5_push k b L σ) := by
  intro k
  induction k with
  | zero => intro b L σ _; exact Bf_no
  | succ k ih =>
    intro b L σ hb
    match b with
    | 0 =>
      refine Bf_eq (by rw [f_X5_push]) ?_
      exact Bf_oP (fun _ => Bf_ox (kb_f_X7_emit__P _ _ _ _ hb) (fun _ h864 => Bf_oP (fun _ => Bf_ox (kb_f_X7_word__P _ _ _ _ h864) (fun _ h865 => Bf_so h865))))
    | b + 1 =>
      exact Bf_eq (by rw [f_X5_push]) Bf_no
theorem kb_f_X5_iterNames {P : Prop} : ∀ (k b : Nat) (L : LV) (σ : CS), BY P σ → Bf P (f_X5_iterNames k b L σ) := by
  intro k
  induction k with
  | zero => intro b L σ _; exact Bf_no
  | succ k ih =>
    intro b L σ hb
    match b with
    | 0 =>
      refine Bf_eq (by rw [f_X5_iterNames]) ?_
      exact Bf_ite (ih _ _ _ hb) (Bf_ox (kb_f_X5_opens _ _ _ _ hb) (fun _ h866 => ih _ _ _ h866))
    | 1 =>
      refine Bf_eq (by rw [f_X5_iterNames]) ?_
      exact ih _ _ _ hb
    | 2 =>
      refine Bf_eq (by rw [f_X5_iterNames]) ?_
      exact Bf_ite (ih _ _ _ hb) (Bf_ite (ih _ _ _ hb) (Bf_ox (kb_f_X5_checkName _ _ _ _ hb) (fun _ h867 => Bf_oP (fun _ => Bf_ite (Bf_ite (ih _ _ _ h867) (ih _ _ _ h867)) (Bf_no)))))
    | 3 =>
      refine Bf_eq (by rw [f_X5_iterNames]) ?_
      exact Bf_ite (ih _ _ _ hb) (Bf_ox (kb_f_X5_closes _ _ _ _ hb) (fun _ h868 => ih _ _ _ h868))
    | 4 =>
      refine Bf_eq (by rw [f_X5_iterNames]) ?_
      exact ih _ _ _ hb
    | 5 =>
      refine Bf_eq (by rw [f_X5_iterNames]) ?_
      exact Bf_ite (Bf_ite (ih _ _ _ (BY_A (nB_17 _) hb)) (Bf_oP (fun _ => Bf_op (kb_y_X7_newSlots__P _ _ _ _ (BY_A (nB_17 _) hb)) (fun _ h869 => ih _ _ _ h869)))) (Bf_no)
    | 6 =>
      refine Bf_eq (by rw [f_X5_iterNames]) ?_
      exact Bf_so hb
    | 7 =>
      refine Bf_eq (by rw [f_X5_iterNames]) ?_
      exact Bf_oP (fun _ => Bf_op (kb_y_X7_newPassing__P _ _ _ _ hb) (fun _ h870 => ih _ _ _ h870))
    | 8 =>
      refine Bf_eq (by rw [f_X5_iterNames]) ?_
      exact Bf_oP (fun _ => Bf_ite (ih _ _ _ hb) (ih _ _ _ hb))
    | 9 =>
      refine Bf_eq (by rw [f_X5_iterNames]) ?_
      exact ih _ _ _ hb
    | 10 =>
      refine Bf_eq (by rw [f_X5_iterNames]) ?_
      exact Bf_op (kb_y_X7_tell__P _ _ _ _ hb) (fun _ h871 => Bf_oP (fun _ => Bf_oP (fun _ => Bf_ite (Bf_ox (kb_f_X2_advance _ _ _ _ (BY_A (nB_10 _) h871)) (fun _ h872 => Bf_ite (ih _ _ _ h872) (Bf_ite (ih _ _ _ h872) (ih _ _ _ h872)))) (Bf_no))))
    | 11 =>
      refine Bf_eq (by rw [f_X5_iterNames]) ?_
      exact ih _ _ _ hb
    | 12 =>
      refine Bf_eq (by rw [f_X5_iterNames]) ?_
      exact Bf_ite (ih _ _ _ hb) (Bf_ox (kb_f_X2_advance _ _ _ _ hb) (fun _ h873 => ih _ _ _ h873))
    | 13 =>
      refine Bf_eq (by rw [f_X5_iterNames]) ?_
      exact ih _ _ _ hb
    | b + 14 =>
      exact Bf_eq (by rw [f_X5_iterNames]) Bf_no
theorem kb_f_X5_iterStore {P : Prop} : ∀ (k b : Nat) (L : LV) (σ : CS), BY P σ → Bf P (f_X5_iterStore k b L σ) := by
  intro k
  induction k with
  | zero => intro b L σ _; exact Bf_no
  | succ k ih =>
    intro b L σ hb
    match b with
    | 0 =>
      refine Bf_eq (by rw [f_X5_iterStore]) ?_
      exact Bf_ite (Bf_oP (fun _ => Bf_ite (ih _ _ _ hb) (ih _ _ _ hb))) (ih _ _ _ hb)
    | 1 =>
      refine Bf_eq (by rw [f_X5_iterStore]) ?_
      exact Bf_oP (fun _ => Bf_ite (ih _ _ _ hb) (ih _ _ _ hb))
    | 2 =>
      refine Bf_eq (by rw [f_X5_iterStore]) ?_
      exact ih _ _ _ hb
    | 3 =>
      refine Bf_eq (by rw [f_X5_iterStore]) ?_
      exact Bf_ox (kb_f_X7_emit__P _ _ _ _ hb) (fun _ h874 => ih _ _ _ h874)
    | 4 =>
      refine Bf_eq (by rw [f_X5_iterStore]) ?_
      exact ih _ _ _ hb
    | 5 =>
      refine Bf_eq (by rw [f_X5_iterStore]) ?_
      exact Bf_ox (kb_f_X7_emit__P _ _ _ _ hb) (fun _ h875 => Bf_oP (fun _ => Bf_ox (kb_f_X7_word__P _ _ _ _ h875) (fun _ h876 => ih _ _ _ h876)))
    | 6 =>
      refine Bf_eq (by rw [f_X5_iterStore]) ?_
      exact Bf_so hb
    | b + 7 =>
      exact Bf_eq (by rw [f_X5_iterStore]) Bf_no
theorem kb_f_X5_mark {P : Prop} : ∀ (k b : Nat) (L : LV) (σ : CS), BY P σ → Bf P (f_X5_mark k b L σ) := by
  intro k
  induction k with
  | zero => intro b L σ _; exact Bf_no
  | succ k ih =>
    intro b L σ hb
    match b with
    | 0 =>
      refine Bf_eq (by rw [f_X5_mark]) ?_
      exact Bf_ox (kb_f_X5_widenMarks _ _ _ _ hb) (fun _ h877 => Bf_ite (Bf_so (BY_I (by decide) (BY_A (by decide) h877))) (Bf_no))
    | b + 1 =>
      exact Bf_eq (by rw [f_X5_mark]) Bf_no
theorem kb_f_X5_clear {P : Prop} : ∀ (k b : Nat) (L : LV) (σ : CS), BY P σ → Bf P (f_X5_clear k b L σ) := by
  intro k
  induction k with
  | zero => intro b L σ _; exact Bf_no
  | succ k ih =>
    intro b L σ hb
    match b with
    | 0 =>
      refine Bf_eq (by rw [f_X5_clear]) ?_
      exact Bf_oP (fun _ => Bf_ox (kb_f_X7_emit__P _ _ _ _ hb) (fun _ h878 => Bf_oP (fun _ => Bf_oP (fun _ => Bf_ox (kb_f_X7_word__P _ _ _ _ h878) (fun _ h879 => Bf_oP (fun _ => Bf_so (BY_I (nF_P _ (by decide)) h879)))))))
    | b + 1 =>
      exact Bf_eq (by rw [f_X5_clear]) Bf_no
theorem kb_f_X5_settle {P : Prop} : ∀ (k b : Nat) (L : LV) (σ : CS), BY P σ → Bf P (f_X5_settle k b L σ) := by
  intro k
  induction k with
  | zero => intro b L σ _; exact Bf_no
  | succ k ih =>
    intro b L σ hb
    match b with
    | 0 =>
      refine Bf_eq (by rw [f_X5_settle]) ?_
      exact ih _ _ _ hb
    | 1 =>
      refine Bf_eq (by rw [f_X5_settle]) ?_
      exact Bf_ite (ih _ _ _ hb) (Bf_ite (ih _ _ _ hb) (Bf_ite (Bf_ite (ih _ _ _ hb) (Bf_ite (Bf_ite (Bf_oP (fun _ => Bf_ite (Bf_ox (kb_f_X7_emit__P _ _ _ _ (BY_I (by decide) hb)) (fun _ h880 => Bf_ite (ih _ _ _ h880) (Bf_oP (fun _ => Bf_oP (fun _ => Bf_op (kb_y_X7_aim__P _ _ _ _ h880) (fun _ h881 => ih _ _ _ h881)))))) (Bf_no))) (Bf_no)) (Bf_no))) (Bf_no)))
    | 2 =>
      refine Bf_eq (by rw [f_X5_settle]) ?_
      exact Bf_so hb
    | 3 =>
      refine Bf_eq (by rw [f_X5_settle]) ?_
      exact Bf_ite (ih _ _ _ hb) (Bf_ite (ih _ _ _ hb) (ih _ _ _ hb))
    | 4 =>
      refine Bf_eq (by rw [f_X5_settle]) ?_
      exact Bf_ite (Bf_ite (Bf_oP (fun _ => Bf_ox (kb_f_X7_emit__P _ _ _ _ hb) (fun _ h882 => ih _ _ _ h882))) (ih _ _ _ hb)) (Bf_no)
    | 5 =>
      refine Bf_eq (by rw [f_X5_settle]) ?_
      exact ih _ _ _ (BY_I (by decide) hb)
    | 6 =>
      refine Bf_eq (by rw [f_X5_settle]) ?_
      exact ih _ _ _ hb
    | b + 7 =>
      exact Bf_eq (by rw [f_X5_settle]) Bf_no
theorem kb_t_X5_choice {P : Prop} {X : Nat → Nat → Nat → LV → CS → Option RS} (hX : ∀ e m b L (σ : CS), BY P σ → Bf P (X e m b L σ)) (K d b : Nat) (L : LV) (σ : CS) (hb : BY P σ) : Bf P (t_X5_choice X K d b L σ) := by
  match b with
  | 0 => exact Bf_ox (kb_f_X5_opens _ _ _ _ hb) (fun _ h883 => Bf_of (fun _ => Bf_ox (hX _ _ _ _ _ h883) (fun _ h884 => Bf_ox (kb_f_X5_expect _ _ _ _ h884) (fun _ h885 => Bf_oP (fun _ => Bf_ox (kb_f_X7_emit__P _ _ _ _ h885) (fun _ h886 => Bf_of (fun _ => Bf_ox (hX _ _ _ _ _ h886) (fun _ h887 => Bf_oP (fun _ => Bf_ox (kb_f_X7_emit__P _ _ _ _ h887) (fun _ h888 => Bf_oP (fun _ => Bf_oP (fun _ => Bf_op (kb_y_X7_aim__P _ _ _ _ h888) (fun _ h889 => hX _ _ _ _ _ h889)))))))))))))
  | 1 => exact Bf_ite (hX _ _ _ _ _ hb) (Bf_ite (Bf_ox (kb_f_X2_advance _ _ _ _ hb) (fun _ h890 => Bf_of (fun _ => Bf_ox (hX _ _ _ _ _ h890) (fun _ h891 => Bf_ox (kb_f_X5_expect _ _ _ _ h891) (fun _ h892 => Bf_oP (fun _ => Bf_ox (kb_f_X7_emit__P _ _ _ _ h892) (fun _ h893 => Bf_of (fun _ => Bf_ox (hX _ _ _ _ _ h893) (fun _ h894 => Bf_oP (fun _ => Bf_ox (kb_f_X7_emit__P _ _ _ _ h894) (fun _ h895 => Bf_oP (fun _ => Bf_oP (fun _ => Bf_op (kb_y_X7_aim__P _ _ _ _ h895) (fun _ h896 => hX _ _ _ _ _ h896)))))))))))))) (hX _ _ _ _ _ hb))
  | 2 => exact Bf_ox (kb_f_X5_expect _ _ _ _ hb) (fun _ h897 => Bf_of (fun _ => Bf_ox (hX _ _ _ _ _ h897) (fun _ h898 => Bf_ox (kb_f_X5_closes _ _ _ _ h898) (fun _ h899 => Bf_op (kb_y_X5_aimAll _ _ _ _ h899) (fun _ h900 => Bf_so h900)))))
  | b + 3 => exact Bf_no
theorem kb_t_X5_exp {P : Prop} {X : Nat → Nat → Nat → LV → CS → Option RS} (hX : ∀ e m b L (σ : CS), BY P σ → Bf P (X e m b L σ)) (K d b : Nat) (L : LV) (σ : CS) (hb : BY P σ) : Bf P (t_X5_exp X K d b L σ) := by
  match b with
  | 0 => exact hX _ _ _ _ _ hb
  | 1 => exact Bf_ite (hX _ _ _ _ _ hb) (Bf_ite (hX _ _ _ _ _ hb) (hX _ _ _ _ _ hb))
  | 2 => exact Bf_ox (kb_f_X5_settle _ _ _ _ hb) (fun _ h901 => Bf_so h901)
  | 3 => exact Bf_ite (hX _ _ _ _ _ hb) (Bf_ite (hX _ _ _ _ _ hb) (Bf_ox (kb_f_X5_prefix _ _ _ _ hb) (fun _ h902 => hX _ _ _ _ _ h902)))
  | 4 => exact Bf_of (fun _ => Bf_ox (hX _ _ _ _ _ hb) (fun _ h903 => Bf_op (kb_y_X5_level _ _ _ _ h903) (fun _ h904 => Bf_ite (hX _ _ _ _ _ h904) (hX _ _ _ _ _ h904))))
  | 5 => exact hX _ _ _ _ _ hb
  | 6 => exact Bf_ite (hX _ _ _ _ _ hb) (Bf_ite (hX _ _ _ _ _ hb) (Bf_ite (hX _ _ _ _ _ hb) (hX _ _ _ _ _ hb)))
  | 7 => exact Bf_ite (hX _ _ _ _ _ hb) (Bf_ite (Bf_ox (kb_f_X5_opens _ _ _ _ hb) (fun _ h905 => hX _ _ _ _ _ h905)) (hX _ _ _ _ _ hb))
  | 8 => exact hX _ _ _ _ _ hb
  | 9 => exact hX _ _ _ _ _ hb
  | 10 => exact Bf_ite (hX _ _ _ _ _ hb) (Bf_ox (kb_f_X2_advance _ _ _ _ hb) (fun _ h906 => hX _ _ _ _ _ h906))
  | 11 => exact Bf_ite (hX _ _ _ _ _ hb) (Bf_ite (hX _ _ _ _ _ hb) (Bf_oP (fun _ => Bf_ite (hX _ _ _ _ _ hb) (hX _ _ _ _ _ hb))))
  | 12 => exact Bf_ite (hX _ _ _ _ _ hb) (hX _ _ _ _ _ hb)
  | 13 => exact Bf_ite (hX _ _ _ _ _ hb) (Bf_op (kb_y_X5_binaryOp _ _ _ _ hb) (fun _ h907 => Bf_ox (kb_f_X5_postpone _ _ _ _ h907) (fun _ h908 => hX _ _ _ _ _ h908)))
  | 14 => exact hX _ _ _ _ _ hb
  | 15 => exact Bf_ox (kb_f_X7_emit__P _ _ _ _ hb) (fun _ h909 => Bf_ox (kb_f_X5_postpone _ _ _ _ h909) (fun _ h910 => hX _ _ _ _ _ h910))
  | 16 => exact hX _ _ _ _ _ hb
  | 17 => exact Bf_ox (kb_f_X5_settle _ _ _ _ hb) (fun _ h911 => Bf_ite (Bf_op (kb_y_X5_postponedLevel _ _ _ _ h911) (fun _ h912 => Bf_ite (hX _ _ _ _ _ h912) (hX _ _ _ _ _ h912))) (hX _ _ _ _ _ h911))
  | 18 => exact hX _ _ _ _ _ hb
  | 19 => exact hX _ _ _ _ _ hb
  | 20 => exact hX _ _ _ _ _ hb
  | 21 => exact hX _ _ _ _ _ hb
  | b + 22 => exact Bf_no
theorem kb_t_X5_exps {P : Prop} {X : Nat → Nat → Nat → LV → CS → Option RS} (hX : ∀ e m b L (σ : CS), BY P σ → Bf P (X e m b L σ)) (K d b : Nat) (L : LV) (σ : CS) (hb : BY P σ) : Bf P (t_X5_exps X K d b L σ) := by
  match b with
  | 0 => exact Bf_of (fun _ => Bf_ox (hX _ _ _ _ _ hb) (fun _ h913 => hX _ _ _ _ _ h913))
  | 1 => exact Bf_ite (hX _ _ _ _ _ hb) (Bf_ite (Bf_ox (kb_f_X2_advance _ _ _ _ hb) (fun _ h914 => Bf_of (fun _ => Bf_ox (hX _ _ _ _ _ h914) (fun _ h915 => hX _ _ _ _ _ h915)))) (hX _ _ _ _ _ hb))
  | 2 => exact Bf_so hb
  | b + 3 => exact Bf_no
theorem kb_t_X5_former {P : Prop} {X : Nat → Nat → Nat → LV → CS → Option RS} (hX : ∀ e m b L (σ : CS), BY P σ → Bf P (X e m b L σ)) (K d b : Nat) (L : LV) (σ : CS) (hb : BY P σ) : Bf P (t_X5_former X K d b L σ) := by
  match b with
  | 0 => exact Bf_ox (kb_f_X2_advance _ _ _ _ hb) (fun _ h916 => Bf_oP (fun _ => Bf_oP (fun _ => Bf_oP (fun _ => Bf_ox (kb_f_X7_emit__P _ _ _ _ h916) (fun _ h917 => Bf_of (fun _ => Bf_ox (hX _ _ _ _ _ h917) (fun _ h918 => Bf_ite (Bf_ox (kb_f_X2_advance _ _ _ _ h918) (fun _ h919 => Bf_of (fun _ => Bf_ox (hX _ _ _ _ _ h919) (fun _ h920 => Bf_oP (fun _ => Bf_oP (fun _ => Bf_ox (kb_f_X7_emit__P _ _ _ _ h920) (fun _ h921 => Bf_op (kb_y_X7_aim__P _ _ _ _ h921) (fun _ h922 => hX _ _ _ _ _ h922)))))))) (hX _ _ _ _ _ h918))))))))
  | 1 => exact Bf_ox (kb_f_X5_expect _ _ _ _ hb) (fun _ h923 => Bf_of (fun _ => Bf_ox (hX _ _ _ _ _ h923) (fun _ h924 => Bf_oP (fun _ => Bf_ox (kb_f_X7_emit__P _ _ _ _ h924) (fun _ h925 => Bf_oP (fun _ => Bf_oP (fun _ => Bf_ox (kb_f_X7_emit__P _ _ _ _ h925) (fun _ h926 => Bf_op (kb_y_X7_aim__P _ _ _ _ h926) (fun _ h927 => Bf_oP (fun _ => Bf_oP (fun _ => Bf_ite (Bf_ox (kb_f_X5_clear _ _ _ _ (BY_A (nB_0 _) h927)) (fun _ h928 => Bf_oP (fun _ => Bf_ox (kb_f_X7_emit__P _ _ _ _ h928) (fun _ h929 => Bf_oP (fun _ => Bf_so (BY_I (nF_P _ (by decide)) h929)))))) (Bf_no))))))))))))
  | b + 2 => exact Bf_no
theorem kb_t_X5_functionCall {P : Prop} {X : Nat → Nat → Nat → LV → CS → Option RS} (hX : ∀ e m b L (σ : CS), BY P σ → Bf P (X e m b L σ)) (K d b : Nat) (L : LV) (σ : CS) (hb : BY P σ) : Bf P (t_X5_functionCall X K d b L σ) := by
  match b with
  | 0 => exact Bf_oP (fun _ => Bf_ox (kb_f_X7_emit__P _ _ _ _ hb) (fun _ h930 => Bf_ox (kb_f_X5_opens _ _ _ _ h930) (fun _ h931 => Bf_ite (hX _ _ _ _ _ h931) (hX _ _ _ _ _ h931))))
  | 1 => exact Bf_of (fun _ => Bf_ox (hX _ _ _ _ _ hb) (fun _ h932 => hX _ _ _ _ _ h932))
  | 2 => exact Bf_ox (kb_f_X5_want _ _ _ _ hb) (fun _ h933 => Bf_oP (fun _ => Bf_ite (Bf_ite (hX _ _ _ _ _ h933) (Bf_ox (kb_f_X5_refuse _ _ _ _ h933) (fun _ h934 => hX _ _ _ _ _ h934))) (Bf_no)))
  | 3 => exact Bf_ox (kb_f_X5_closes _ _ _ _ hb) (fun _ h935 => Bf_oP (fun _ => Bf_ox (kb_f_X7_emit__P _ _ _ _ h935) (fun _ h936 => Bf_oP (fun _ => Bf_oP (fun _ => Bf_ox (kb_f_X7_word__P _ _ _ _ h936) (fun _ h937 => Bf_so h937))))))
  | b + 4 => exact Bf_no
theorem kb_t_X5_iters {P : Prop} {X : Nat → Nat → Nat → LV → CS → Option RS} (hX : ∀ e m b L (σ : CS), BY P σ → Bf P (X e m b L σ)) (K d b : Nat) (L : LV) (σ : CS) (hb : BY P σ) : Bf P (t_X5_iters X K d b L σ) := by
  match b with
  | 0 => exact Bf_oP (fun _ => hX _ _ _ _ _ hb)
  | 1 => exact Bf_ite (hX _ _ _ _ _ hb) (Bf_ite (hX _ _ _ _ _ hb) (Bf_oP (fun _ => Bf_ite (hX _ _ _ _ _ hb) (Bf_oP (fun _ => Bf_ite (hX _ _ _ _ _ hb) (Bf_no))))))
  | 2 => exact Bf_so (BY_I (by decide) (BY_I (by decide) hb))
  | 3 => exact Bf_oP (fun _ => hX _ _ _ _ _ hb)
  | 4 => exact Bf_ite (hX _ _ _ _ _ hb) (hX _ _ _ _ _ hb)
  | 5 => exact hX _ _ _ _ _ hb
  | 6 => exact Bf_ox (kb_f_X5_iterNames _ _ _ _ hb) (fun _ h938 => Bf_oP (fun _ => Bf_ox (kb_f_X5_expect _ _ _ _ h938) (fun _ h939 => Bf_of (fun _ => Bf_ox (hX _ _ _ _ _ h939) (fun _ h940 => Bf_ite (hX _ _ _ _ _ h940) (Bf_oP (fun _ => Bf_op (kb_y_X7_newSlots__P _ _ _ _ h940) (fun _ h941 => hX _ _ _ _ _ h941))))))))
  | 7 => exact Bf_oP (fun _ => Bf_op (kb_y_X7_newPassing__P _ _ _ _ hb) (fun _ h942 => hX _ _ _ _ _ h942))
  | 8 => exact Bf_oP (fun _ => Bf_ite (hX _ _ _ _ _ hb) (hX _ _ _ _ _ hb))
  | 9 => exact hX _ _ _ _ _ hb
  | 10 => exact Bf_ox (kb_f_X7_emit__P _ _ _ _ hb) (fun _ h943 => Bf_oP (fun _ => Bf_ite (hX _ _ _ _ _ h943) (hX _ _ _ _ _ h943)))
  | 11 => exact hX _ _ _ _ _ hb
  | 12 => exact Bf_ox (kb_f_X7_emit__P _ _ _ _ hb) (fun _ h944 => Bf_oP (fun _ => Bf_ox (kb_f_X7_word__P _ _ _ _ h944) (fun _ h945 => Bf_ite (hX _ _ _ _ _ h945) (hX _ _ _ _ _ h945))))
  | 13 => exact hX _ _ _ _ _ hb
  | 14 => exact Bf_ite (hX _ _ _ _ _ hb) (hX _ _ _ _ _ hb)
  | 15 => exact hX _ _ _ _ _ hb
  | 16 => exact Bf_ox (kb_f_X5_iterStore _ _ _ _ hb) (fun _ h946 => hX _ _ _ _ _ h946)
  | 17 => exact Bf_oP (fun _ => Bf_ite (hX _ _ _ _ _ hb) (Bf_oP (fun _ => Bf_ite (hX _ _ _ _ _ (BY_A (nB_10 _) hb)) (Bf_no))))
  | 18 => exact Bf_ite (hX _ _ _ _ _ hb) (Bf_ox (kb_f_X5_mark _ _ _ _ hb) (fun _ h947 => Bf_ox (kb_f_X5_mark _ _ _ _ h947) (fun _ h948 => Bf_ox (kb_f_X5_mark _ _ _ _ h948) (fun _ h949 => hX _ _ _ _ _ h949))))
  | 19 => exact Bf_ite (hX _ _ _ _ _ hb) (hX _ _ _ _ _ hb)
  | 20 => exact hX _ _ _ _ _ hb
  | 21 => exact Bf_ite (hX _ _ _ _ _ hb) (Bf_ox (kb_f_X2_advance _ _ _ _ hb) (fun _ h950 => hX _ _ _ _ _ h950))
  | 22 => exact hX _ _ _ _ _ hb
  | b + 23 => exact Bf_no
theorem kb_t_X5_members {P : Prop} {X : Nat → Nat → Nat → LV → CS → Option RS} (hX : ∀ e m b L (σ : CS), BY P σ → Bf P (X e m b L σ)) (K d b : Nat) (L : LV) (σ : CS) (hb : BY P σ) : Bf P (t_X5_members X K d b L σ) := by
  match b with
  | 0 => exact hX _ _ _ _ _ hb
  | 1 => exact Bf_ite (hX _ _ _ _ _ hb) (Bf_ite (Bf_ox (kb_f_X2_advance _ _ _ _ hb) (fun _ h951 => Bf_ite (Bf_oP (fun _ => Bf_ox (kb_f_X7_emit__P _ _ _ _ h951) (fun _ h952 => hX _ _ _ _ _ h952))) (hX _ _ _ _ _ h951))) (hX _ _ _ _ _ hb))
  | 2 => exact Bf_oP (fun _ => Bf_ite (hX _ _ _ _ _ hb) (hX _ _ _ _ _ hb))
  | 3 => exact Bf_of (fun _ => Bf_ox (hX _ _ _ _ _ hb) (fun _ h953 => Bf_ite (hX _ _ _ _ _ h953) (Bf_oP (fun _ => Bf_ox (kb_f_X7_emit__P _ _ _ _ h953) (fun _ h954 => hX _ _ _ _ _ h954)))))
  | 4 => exact hX _ _ _ _ _ hb
  | 5 => exact Bf_ox (kb_f_X7_emit__P _ _ _ _ hb) (fun _ h955 => Bf_so h955)
  | 6 => exact Bf_ite (Bf_ite (Bf_ox (kb_f_X2_advance _ _ _ _ hb) (fun _ h956 => Bf_of (fun _ => Bf_ox (hX _ _ _ _ _ h956) (fun _ h957 => Bf_oP (fun _ => Bf_ox (kb_f_X7_emit__P _ _ _ _ h957) (fun _ h958 => Bf_so h958)))))) (hX _ _ _ _ _ hb)) (hX _ _ _ _ _ hb)
  | 7 => exact hX _ _ _ _ _ hb
  | b + 8 => exact Bf_no
theorem kb_t_X5_named {P : Prop} {X : Nat → Nat → Nat → LV → CS → Option RS} (hX : ∀ e m b L (σ : CS), BY P σ → Bf P (X e m b L σ)) (K d b : Nat) (L : LV) (σ : CS) (hb : BY P σ) : Bf P (t_X5_named X K d b L σ) := by
  match b with
  | 0 => exact Bf_ox (kb_f_X5_takenName _ _ _ _ hb) (fun _ h959 => Bf_ite (hX _ _ _ _ _ h959) (hX _ _ _ _ _ h959))
  | 1 => exact Bf_oP (fun _ => Bf_ite (hX _ _ _ _ _ hb) (Bf_no))
  | 2 => exact Bf_ite (hX _ _ _ _ _ hb) (Bf_ite (Bf_ite (hX _ _ _ _ _ hb) (hX _ _ _ _ _ hb)) (hX _ _ _ _ _ hb))
  | 3 => exact Bf_ox (kb_f_X5_refuse _ _ _ _ hb) (fun _ h960 => hX _ _ _ _ _ h960)
  | 4 => exact Bf_ite (Bf_oP (fun _ => Bf_ite (Bf_of (fun _ => Bf_ox (hX _ _ _ _ _ hb) (fun _ h961 => Bf_so h961))) (Bf_no))) (hX _ _ _ _ _ hb)
  | 5 => exact Bf_ite (hX _ _ _ _ _ hb) (hX _ _ _ _ _ hb)
  | 6 => exact hX _ _ _ _ _ hb
  | 7 => exact Bf_oP (fun _ => Bf_oP (fun _ => Bf_ite (Bf_ite (hX _ _ _ _ _ hb) (hX _ _ _ _ _ hb)) (Bf_no)))
  | 8 => exact hX _ _ _ _ _ hb
  | 9 => exact Bf_oP (fun _ => Bf_ite (Bf_ox (kb_f_X7_emit__P _ _ _ _ hb) (fun _ h962 => Bf_so h962)) (Bf_no))
  | b + 10 => exact Bf_no
theorem kb_t_X5_operand {P : Prop} {X : Nat → Nat → Nat → LV → CS → Option RS} (hX : ∀ e m b L (σ : CS), BY P σ → Bf P (X e m b L σ)) (K d b : Nat) (L : LV) (σ : CS) (hb : BY P σ) : Bf P (t_X5_operand X K d b L σ) := by
  match b with
  | 0 => exact Bf_of (fun _ => Bf_ox (hX _ _ _ _ _ hb) (fun _ h963 => hX _ _ _ _ _ h963))
  | 1 => exact Bf_ite (hX _ _ _ _ _ hb) (Bf_ite (hX _ _ _ _ _ hb) (Bf_ite (hX _ _ _ _ _ hb) (hX _ _ _ _ _ hb)))
  | 2 => exact Bf_ite (hX _ _ _ _ _ hb) (hX _ _ _ _ _ hb)
  | 3 => exact Bf_oP (fun _ => Bf_of (fun _ => Bf_ox (hX _ _ _ _ _ hb) (fun _ h964 => Bf_ox (kb_f_X5_mark _ _ _ _ h964) (fun _ h965 => Bf_oP (fun _ => Bf_ox (kb_f_X5_mark _ _ _ _ h965) (fun _ h966 => Bf_ox (kb_f_X5_mark _ _ _ _ h966) (fun _ h967 => Bf_oP (fun _ => Bf_ox (kb_f_X7_emit__P _ _ _ _ h967) (fun _ h968 => hX _ _ _ _ _ h968)))))))))
  | 4 => exact hX _ _ _ _ _ hb
  | 5 => exact Bf_oP (fun _ => hX _ _ _ _ _ (BY_I (by decide) (BY_I (by decide) (BY_I (by decide) hb))))
  | 6 => exact hX _ _ _ _ _ (BY_I (by decide) (BY_I (by decide) (BY_I (by decide) hb)))
  | 7 => exact Bf_so hb
  | b + 8 => exact Bf_no
theorem kb_t_X5_part {P : Prop} {X : Nat → Nat → Nat → LV → CS → Option RS} (hX : ∀ e m b L (σ : CS), BY P σ → Bf P (X e m b L σ)) (K d b : Nat) (L : LV) (σ : CS) (hb : BY P σ) : Bf P (t_X5_part X K d b L σ) := by
  match b with
  | 0 => exact Bf_ite (Bf_ox (kb_f_X5_opens _ _ _ _ hb) (fun _ h969 => Bf_of (fun _ => Bf_ox (hX _ _ _ _ _ h969) (fun _ h970 => Bf_ox (kb_f_X5_closes _ _ _ _ h970) (fun _ h971 => Bf_so h971))))) (hX _ _ _ _ _ hb)
  | 1 => exact Bf_ox (kb_f_X5_opens _ _ _ _ hb) (fun _ h972 => Bf_of (fun _ => Bf_ox (hX _ _ _ _ _ h972) (fun _ h973 => Bf_ite (Bf_ox (kb_f_X2_advance _ _ _ _ h973) (fun _ h974 => Bf_of (fun _ => Bf_ox (hX _ _ _ _ _ h974) (fun _ h975 => hX _ _ _ _ _ h975)))) (hX _ _ _ _ _ h973))))
  | 2 => exact Bf_ox (kb_f_X5_closes _ _ _ _ hb) (fun _ h976 => Bf_so h976)
  | b + 3 => exact Bf_no
theorem kb_t_X5_primary {P : Prop} {X : Nat → Nat → Nat → LV → CS → Option RS} (hX : ∀ e m b L (σ : CS), BY P σ → Bf P (X e m b L σ)) (K d b : Nat) (L : LV) (σ : CS) (hb : BY P σ) : Bf P (t_X5_primary X K d b L σ) := by
  match b with
  | 0 => exact Bf_ite (hX _ _ _ _ _ hb) (Bf_ite (hX _ _ _ _ _ hb) (Bf_ite (hX _ _ _ _ _ hb) (Bf_ite (hX _ _ _ _ _ hb) (Bf_ite (hX _ _ _ _ _ hb) (Bf_ite (hX _ _ _ _ _ hb) (Bf_ite (hX _ _ _ _ _ hb) (Bf_ite (hX _ _ _ _ _ hb) (Bf_ite (hX _ _ _ _ _ hb) (Bf_ite (hX _ _ _ _ _ hb) (Bf_ite (hX _ _ _ _ _ hb) (Bf_ite (hX _ _ _ _ _ hb) (hX _ _ _ _ _ hb))))))))))))
  | 1 => exact Bf_of (fun _ => Bf_ox (hX _ _ _ _ _ hb) (fun _ h977 => Bf_so h977))
  | 2 => exact Bf_ox (kb_f_X5_number _ _ _ _ hb) (fun _ h978 => hX _ _ _ _ _ h978)
  | 3 => exact Bf_ox (kb_f_X5_string _ _ _ _ hb) (fun _ h979 => hX _ _ _ _ _ h979)
  | 4 => exact Bf_ox (kb_f_X5_opens _ _ _ _ hb) (fun _ h980 => Bf_of (fun _ => Bf_ox (hX _ _ _ _ _ h980) (fun _ h981 => Bf_ox (kb_f_X5_closes _ _ _ _ h981) (fun _ h982 => hX _ _ _ _ _ h982))))
  | 5 => exact Bf_of (fun _ => Bf_ox (hX _ _ _ _ _ hb) (fun _ h983 => hX _ _ _ _ _ h983))
  | 6 => exact Bf_of (fun _ => Bf_ox (hX _ _ _ _ _ hb) (fun _ h984 => hX _ _ _ _ _ h984))
  | 7 => exact Bf_of (fun _ => Bf_ox (hX _ _ _ _ _ hb) (fun _ h985 => hX _ _ _ _ _ h985))
  | 8 => exact Bf_ite (hX _ _ _ _ _ hb) (hX _ _ _ _ _ hb)
  | 9 => exact Bf_of (fun _ => Bf_ox (hX _ _ _ _ _ hb) (fun _ h986 => hX _ _ _ _ _ h986))
  | 10 => exact Bf_of (fun _ => Bf_ox (hX _ _ _ _ _ hb) (fun _ h987 => hX _ _ _ _ _ h987))
  | 11 => exact Bf_so hb
  | 12 => exact Bf_ite (hX _ _ _ _ _ hb) (hX _ _ _ _ _ hb)
  | 13 => exact Bf_ox (kb_f_X5_push _ _ _ _ hb) (fun _ h988 => Bf_ox (kb_f_X2_advance _ _ _ _ h988) (fun _ h989 => hX _ _ _ _ _ h989))
  | 14 => exact hX _ _ _ _ _ hb
  | 15 => exact Bf_op (kb_y_X11_truth _ _ _ _ hb) (fun _ h990 => hX _ _ _ _ _ h990)
  | b + 16 => exact Bf_no
theorem kb_t_X5_quantifier {P : Prop} {X : Nat → Nat → Nat → LV → CS → Option RS} (hX : ∀ e m b L (σ : CS), BY P σ → Bf P (X e m b L σ)) (K d b : Nat) (L : LV) (σ : CS) (hb : BY P σ) : Bf P (t_X5_quantifier X K d b L σ) := by
  match b with
  | 0 => exact Bf_ite (hX _ _ _ _ _ hb) (hX _ _ _ _ _ hb)
  | 1 => exact hX _ _ _ _ _ hb
  | 2 => exact Bf_ox (kb_f_X5_opens _ _ _ _ hb) (fun _ h991 => Bf_oP (fun _ => Bf_oP (fun _ => Bf_of (fun _ => Bf_ox (hX _ _ _ _ _ h991) (fun _ h992 => Bf_ox (kb_f_X5_expect _ _ _ _ h992) (fun _ h993 => Bf_of (fun _ => Bf_ox (hX _ _ _ _ _ h993) (fun _ h994 => Bf_oP (fun _ => Bf_oP (fun _ => Bf_ite (hX _ _ _ _ _ (BY_I (by decide) h994)) (hX _ _ _ _ _ (BY_I (by decide) h994))))))))))))
  | 3 => exact hX _ _ _ _ _ hb
  | 4 => exact Bf_ox (kb_f_X7_emit__P _ _ _ _ hb) (fun _ h995 => Bf_op (kb_y_X7_aim__P _ _ _ _ h995) (fun _ h996 => Bf_op (kb_y_X11_truth _ _ _ _ h996) (fun _ h997 => Bf_ox (kb_f_X5_push _ _ _ _ h997) (fun _ h998 => Bf_oP (fun _ => Bf_ox (kb_f_X7_emit__P _ _ _ _ h998) (fun _ h999 => Bf_oP (fun _ => Bf_oP (fun _ => Bf_ite (Bf_ite (hX _ _ _ _ _ (BY_A (nB_0 _) h999)) (hX _ _ _ _ _ (BY_A (nB_0 _) h999))) (Bf_no)))))))))
  | 5 => exact hX _ _ _ _ _ hb
  | 6 => exact Bf_op (kb_y_X11_truth _ _ _ _ hb) (fun _ h1000 => Bf_ox (kb_f_X5_push _ _ _ _ h1000) (fun _ h1001 => Bf_oP (fun _ => Bf_oP (fun _ => Bf_op (kb_y_X7_aim__P _ _ _ _ h1001) (fun _ h1002 => Bf_ox (kb_f_X5_clear _ _ _ _ h1002) (fun _ h1003 => Bf_oP (fun _ => Bf_ox (kb_f_X7_emit__P _ _ _ _ h1003) (fun _ h1004 => Bf_oP (fun _ => Bf_so (BY_I (nF_P _ (by decide)) h1004))))))))))
  | b + 7 => exact Bf_no
theorem kb_t_X5_row {P : Prop} {X : Nat → Nat → Nat → LV → CS → Option RS} (hX : ∀ e m b L (σ : CS), BY P σ → Bf P (X e m b L σ)) (K d b : Nat) (L : LV) (σ : CS) (hb : BY P σ) : Bf P (t_X5_row X K d b L σ) := by
  match b with
  | 0 => exact Bf_ox (kb_f_X5_opens _ _ _ _ hb) (fun _ h1005 => Bf_ite (Bf_of (fun _ => Bf_ox (hX _ _ _ _ _ h1005) (fun _ h1006 => hX _ _ _ _ _ h1006))) (hX _ _ _ _ _ h1005))
  | 1 => exact Bf_ite (Bf_oP (fun _ => Bf_ox (kb_f_X7_emit__P _ _ _ _ hb) (fun _ h1007 => hX _ _ _ _ _ h1007))) (hX _ _ _ _ _ hb)
  | 2 => exact Bf_ox (kb_f_X5_closes _ _ _ _ hb) (fun _ h1008 => Bf_so h1008)
  | 3 => exact Bf_of (fun _ => Bf_ox (hX _ _ _ _ _ hb) (fun _ h1009 => Bf_ite (Bf_ox (kb_f_X2_advance _ _ _ _ h1009) (fun _ h1010 => Bf_of (fun _ => Bf_ox (hX _ _ _ _ _ h1010) (fun _ h1011 => Bf_oP (fun _ => Bf_ox (kb_f_X7_emit__P _ _ _ _ h1011) (fun _ h1012 => hX _ _ _ _ _ h1012)))))) (hX _ _ _ _ _ h1009)))
  | 4 => exact Bf_of (fun _ => Bf_ox (hX _ _ _ _ _ hb) (fun _ h1013 => hX _ _ _ _ _ h1013))
  | b + 5 => exact Bf_no
theorem kb_t_X5_word {P : Prop} {X : Nat → Nat → Nat → LV → CS → Option RS} (hX : ∀ e m b L (σ : CS), BY P σ → Bf P (X e m b L σ)) (K d b : Nat) (L : LV) (σ : CS) (hb : BY P σ) : Bf P (t_X5_word X K d b L σ) := by
  match b with
  | 0 => exact Bf_ite (Bf_ite (hX _ _ _ _ _ hb) (hX _ _ _ _ _ hb)) (hX _ _ _ _ _ hb)
  | 1 => exact hX _ _ _ _ _ hb
  | 2 => exact Bf_ite (Bf_ite (Bf_ox (kb_f_X2_advance _ _ _ _ hb) (fun _ h1014 => Bf_oP (fun _ => Bf_ox (kb_f_X7_emit__P _ _ _ _ h1014) (fun _ h1015 => Bf_so h1015)))) (hX _ _ _ _ _ hb)) (hX _ _ _ _ _ hb)
  | 3 => exact Bf_op (kb_y_X5_wordOp _ _ _ _ hb) (fun _ h1016 => Bf_ite (Bf_ite (Bf_ox (kb_f_X5_refuse _ _ _ _ h1016) (fun _ h1017 => hX _ _ _ _ _ h1017)) (hX _ _ _ _ _ h1016)) (hX _ _ _ _ _ h1016))
  | 4 => exact Bf_ox (kb_f_X2_advance _ _ _ _ hb) (fun _ h1018 => Bf_ox (kb_f_X5_want _ _ _ _ h1018) (fun _ h1019 => Bf_ox (kb_f_X5_opens _ _ _ _ h1019) (fun _ h1020 => Bf_of (fun _ => Bf_ox (hX _ _ _ _ _ h1020) (fun _ h1021 => Bf_ox (kb_f_X5_closes _ _ _ _ h1021) (fun _ h1022 => Bf_oP (fun _ => Bf_ite (hX _ _ _ _ _ h1022) (hX _ _ _ _ _ h1022))))))))
  | 5 => exact hX _ _ _ _ _ hb
  | 6 => exact Bf_ox (kb_f_X7_emit__P _ _ _ _ hb) (fun _ h1023 => Bf_so h1023)
  | b + 7 => exact Bf_no
theorem kb_f_F2 {P : Prop} : ∀ (k d m b : Nat) (L : LV) (σ : CS), BY P σ → Bf P (f_F2 k d m b L σ) := by
  intro k
  induction k with
  | zero => intro d m b L σ _; exact Bf_no
  | succ k ih =>
    intro d m b L σ hb
    match m with
    | 0 => exact kb_t_X5_choice ih k d b L σ hb
    | 1 => exact kb_t_X5_exp ih k d b L σ hb
    | 2 => exact kb_t_X5_exps ih k d b L σ hb
    | 3 => exact kb_t_X5_former ih k d b L σ hb
    | 4 => exact kb_t_X5_functionCall ih k d b L σ hb
    | 5 => exact kb_t_X5_iters ih k d b L σ hb
    | 6 => exact kb_t_X5_members ih k d b L σ hb
    | 7 => exact kb_t_X5_named ih k d b L σ hb
    | 8 => exact kb_t_X5_operand ih k d b L σ hb
    | 9 => exact kb_t_X5_part ih k d b L σ hb
    | 10 => exact kb_t_X5_primary ih k d b L σ hb
    | 11 => exact kb_t_X5_quantifier ih k d b L σ hb
    | 12 => exact kb_t_X5_row ih k d b L σ hb
    | 13 => exact kb_t_X5_word ih k d b L σ hb
    | m + 14 => exact Bf_no
theorem kb_f_X5_choice {P : Prop} (k b : Nat) (L : LV) (σ : CS) (hb : BY P σ) : Bf P (f_X5_choice k b L σ) := kb_f_F2 k 400 0 b L σ hb
theorem kb_f_X5_exp {P : Prop} (k b : Nat) (L : LV) (σ : CS) (hb : BY P σ) : Bf P (f_X5_exp k b L σ) := kb_f_F2 k 400 1 b L σ hb
theorem kb_f_X5_exps {P : Prop} (k b : Nat) (L : LV) (σ : CS) (hb : BY P σ) : Bf P (f_X5_exps k b L σ) := kb_f_F2 k 400 2 b L σ hb
theorem kb_f_X5_former {P : Prop} (k b : Nat) (L : LV) (σ : CS) (hb : BY P σ) : Bf P (f_X5_former k b L σ) := kb_f_F2 k 400 3 b L σ hb
theorem kb_f_X5_functionCall {P : Prop} (k b : Nat) (L : LV) (σ : CS) (hb : BY P σ) : Bf P (f_X5_functionCall k b L σ) := kb_f_F2 k 400 4 b L σ hb
theorem kb_f_X5_iters {P : Prop} (k b : Nat) (L : LV) (σ : CS) (hb : BY P σ) : Bf P (f_X5_iters k b L σ) := kb_f_F2 k 400 5 b L σ hb
theorem kb_f_X5_members {P : Prop} (k b : Nat) (L : LV) (σ : CS) (hb : BY P σ) : Bf P (f_X5_members k b L σ) := kb_f_F2 k 400 6 b L σ hb
theorem kb_f_X5_named {P : Prop} (k b : Nat) (L : LV) (σ : CS) (hb : BY P σ) : Bf P (f_X5_named k b L σ) := kb_f_F2 k 400 7 b L σ hb
theorem kb_f_X5_operand {P : Prop} (k b : Nat) (L : LV) (σ : CS) (hb : BY P σ) : Bf P (f_X5_operand k b L σ) := kb_f_F2 k 400 8 b L σ hb
theorem kb_f_X5_part {P : Prop} (k b : Nat) (L : LV) (σ : CS) (hb : BY P σ) : Bf P (f_X5_part k b L σ) := kb_f_F2 k 400 9 b L σ hb
theorem kb_f_X5_primary {P : Prop} (k b : Nat) (L : LV) (σ : CS) (hb : BY P σ) : Bf P (f_X5_primary k b L σ) := kb_f_F2 k 400 10 b L σ hb
theorem kb_f_X5_quantifier {P : Prop} (k b : Nat) (L : LV) (σ : CS) (hb : BY P σ) : Bf P (f_X5_quantifier k b L σ) := kb_f_F2 k 400 11 b L σ hb
theorem kb_f_X5_row {P : Prop} (k b : Nat) (L : LV) (σ : CS) (hb : BY P σ) : Bf P (f_X5_row k b L σ) := kb_f_F2 k 400 12 b L σ hb
theorem kb_f_X5_word {P : Prop} (k b : Nat) (L : LV) (σ : CS) (hb : BY P σ) : Bf P (f_X5_word k b L σ) := kb_f_F2 k 400 13 b L σ hb
theorem kb_f_X5_function {P : Prop} : ∀ (k b : Nat) (L : LV) (σ : CS), BY P σ → Bf P (f_X5_function k b L σ) := by
  intro k
  induction k with
  | zero => intro b L σ _; exact Bf_no
  | succ k ih =>
    intro b L σ hb
    match b with
    | 0 =>
      refine Bf_eq (by rw [f_X5_function]) ?_
      exact Bf_ox (kb_f_X5_tellUnit _ _ _ _ hb) (fun _ h1024 => Bf_ite (ih _ _ _ (BY_I (by decide) h1024)) (Bf_ox (kb_f_X5_parameter _ _ _ _ (BY_I (by decide) h1024)) (fun _ h1025 => ih _ _ _ h1025)))
    | 1 =>
      refine Bf_eq (by rw [f_X5_function]) ?_
      exact Bf_ox (kb_f_X5_closes _ _ _ _ hb) (fun _ h1026 => Bf_ox (kb_f_X5_expect _ _ _ _ h1026) (fun _ h1027 => Bf_ox (kb_f_X5_exp _ _ _ _ h1027) (fun _ h1028 => Bf_oP (fun _ => Bf_ox (kb_f_X7_emit__P _ _ _ _ h1028) (fun _ h1029 => Bf_ox (kb_f_X5_expect _ _ _ _ h1029) (fun _ h1030 => Bf_op (kb_y_X5_closeUnit _ _ _ _ h1030) (fun _ h1031 => Bf_so h1031)))))))
    | 2 =>
      refine Bf_eq (by rw [f_X5_function]) ?_
      exact Bf_ite (ih _ _ _ hb) (Bf_ite (Bf_ox (kb_f_X2_advance _ _ _ _ hb) (fun _ h1032 => Bf_ox (kb_f_X5_parameter _ _ _ _ h1032) (fun _ h1033 => ih _ _ _ h1033))) (ih _ _ _ hb))
    | b + 3 =>
      exact Bf_eq (by rw [f_X5_function]) Bf_no
theorem kb_f_X7_words__P__A0 {P : Prop} : ∀ (k b : Nat) (L : LV) (σ : CS), BY P σ → Bf P (f_X7_words__P__A0 k b L σ) := by
  intro k
  induction k with
  | zero => intro b L σ _; exact Bf_no
  | succ k ih =>
    intro b L σ hb
    match b with
    | 0 =>
      refine Bf_eq (by rw [f_X7_words__P__A0]) ?_
      exact Bf_ite (Bf_ox (kb_f_X7_widen__P _ _ _ _ hb) (fun _ h1034 => Bf_ite (ih _ _ _ (BY_F (nB_0 _) h1034)) (Bf_no))) (Bf_no)
    | 1 =>
      refine Bf_eq (by rw [f_X7_words__P__A0]) ?_
      exact Bf_so (BY_I (nF_P _ (by decide)) hb)
    | b + 2 =>
      exact Bf_eq (by rw [f_X7_words__P__A0]) Bf_no
theorem kb_f_X5_modeAndParameter {P : Prop} : ∀ (k b : Nat) (L : LV) (σ : CS), BY P σ → Bf P (f_X5_modeAndParameter k b L σ) := by
  intro k
  induction k with
  | zero => intro b L σ _; exact Bf_no
  | succ k ih =>
    intro b L σ hb
    match b with
    | 0 =>
      refine Bf_eq (by rw [f_X5_modeAndParameter]) ?_
      exact Bf_ite (ih _ _ _ hb) (Bf_ite (ih _ _ _ hb) (Bf_ite (ih _ _ _ hb) (ih _ _ _ hb)))
    | 1 =>
      refine Bf_eq (by rw [f_X5_modeAndParameter]) ?_
      exact Bf_ox (kb_f_X2_advance _ _ _ _ hb) (fun _ h1035 => ih _ _ _ h1035)
    | 2 =>
      refine Bf_eq (by rw [f_X5_modeAndParameter]) ?_
      exact Bf_oP (fun _ => Bf_ite (Bf_ox (kb_f_X5_parameter _ _ _ _ hb) (fun _ h1036 => Bf_oP (fun _ => Bf_oP (fun _ => Bf_ite (Bf_ite (Bf_so (BY_A (nB_15 _) h1036)) (Bf_no)) (Bf_no))))) (Bf_no))
    | b + 3 =>
      exact Bf_eq (by rw [f_X5_modeAndParameter]) Bf_no
theorem kb_f_X5_checkStatement {P : Prop} : ∀ (k b : Nat) (L : LV) (σ : CS), BY P σ → Bf P (f_X5_checkStatement k b L σ) := by
  intro k
  induction k with
  | zero => intro b L σ _; exact Bf_no
  | succ k ih =>
    intro b L σ hb
    match b with
    | 0 =>
      refine Bf_eq (by rw [f_X5_checkStatement]) ?_
      exact Bf_ite (ih _ _ _ hb) (Bf_ite (ih _ _ _ hb) (Bf_ite (ih _ _ _ hb) (Bf_ite (ih _ _ _ hb) (ih _ _ _ hb))))
    | 1 =>
      refine Bf_eq (by rw [f_X5_checkStatement]) ?_
      exact ih _ _ _ hb
    | 2 =>
      refine Bf_eq (by rw [f_X5_checkStatement]) ?_
      exact ih _ _ _ hb
    | 3 =>
      refine Bf_eq (by rw [f_X5_checkStatement]) ?_
      exact Bf_ite (ih _ _ _ hb) (Bf_ite (ih _ _ _ hb) (Bf_ox (kb_f_X5_refuse _ _ _ _ hb) (fun _ h1037 => ih _ _ _ h1037)))
    | 4 =>
      refine Bf_eq (by rw [f_X5_checkStatement]) ?_
      exact Bf_oP (fun _ => Bf_ite (ih _ _ _ hb) (Bf_ox (kb_f_X5_refuse _ _ _ _ hb) (fun _ h1038 => ih _ _ _ h1038)))
    | 5 =>
      refine Bf_eq (by rw [f_X5_checkStatement]) ?_
      exact Bf_ite (ih _ _ _ hb) (ih _ _ _ hb)
    | 6 =>
      refine Bf_eq (by rw [f_X5_checkStatement]) ?_
      exact ih _ _ _ hb
    | 7 =>
      refine Bf_eq (by rw [f_X5_checkStatement]) ?_
      exact Bf_ite (ih _ _ _ hb) (Bf_ite (ih _ _ _ hb) (ih _ _ _ hb))
    | 8 =>
      refine Bf_eq (by rw [f_X5_checkStatement]) ?_
      exact Bf_ite (ih _ _ _ hb) (ih _ _ _ hb)
    | 9 =>
      refine Bf_eq (by rw [f_X5_checkStatement]) ?_
      exact Bf_ite (Bf_ite (ih _ _ _ hb) (ih _ _ _ hb)) (ih _ _ _ hb)
    | 10 =>
      refine Bf_eq (by rw [f_X5_checkStatement]) ?_
      exact Bf_ox (kb_f_X5_refuse _ _ _ _ hb) (fun _ h1039 => ih _ _ _ h1039)
    | 11 =>
      refine Bf_eq (by rw [f_X5_checkStatement]) ?_
      exact Bf_so hb
    | b + 12 =>
      exact Bf_eq (by rw [f_X5_checkStatement]) Bf_no
theorem kb_f_X5_keep__A0 {P : Prop} : ∀ (k b : Nat) (L : LV) (σ : CS), BY P σ → Bf P (f_X5_keep__A0 k b L σ) := by
  intro k
  induction k with
  | zero => intro b L σ _; exact Bf_no
  | succ k ih =>
    intro b L σ hb
    match b with
    | 0 =>
      refine Bf_eq (by rw [f_X5_keep__A0]) ?_
      exact Bf_ite (Bf_ite (Bf_ad (ih _ _ _ (BY_Z ⟨fun z => absurd z (by decide), fun z => absurd z (by decide)⟩ hb))) (ih _ _ _ hb)) (Bf_no)
    | 1 =>
      refine Bf_eq (by rw [f_X5_keep__A0]) ?_
      exact Bf_ite (ih _ _ _ hb) (Bf_so hb)
    | 2 =>
      refine Bf_eq (by rw [f_X5_keep__A0]) ?_
      exact Bf_ite (ih _ _ _ (BY_F (by decide) hb)) (Bf_no)
    | 3 =>
      refine Bf_eq (by rw [f_X5_keep__A0]) ?_
      exact Bf_so (BY_I (by decide) hb)
    | b + 4 =>
      exact Bf_eq (by rw [f_X5_keep__A0]) Bf_no
theorem kb_f_X5_keepTarget {P : Prop} : ∀ (k b : Nat) (L : LV) (σ : CS), BY P σ → Bf P (f_X5_keepTarget k b L σ) := by
  intro k
  induction k with
  | zero => intro b L σ _; exact Bf_no
  | succ k ih =>
    intro b L σ hb
    match b with
    | 0 =>
      refine Bf_eq (by rw [f_X5_keepTarget]) ?_
      exact Bf_oP (fun _ => ih _ _ _ hb)
    | 1 =>
      refine Bf_eq (by rw [f_X5_keepTarget]) ?_
      exact Bf_ite (ih _ _ _ hb) (Bf_oP (fun _ => Bf_oP (fun _ => Bf_ite (Bf_ite (Bf_ite (Bf_ox (kb_f_X7_words__P__A0 _ _ _ _ hb) (fun _ h1040 => Bf_ite (Bf_ite (ih _ _ _ h1040) (ih _ _ _ h1040)) (Bf_no))) (Bf_no)) (Bf_no)) (Bf_no))))
    | 2 =>
      refine Bf_eq (by rw [f_X5_keepTarget]) ?_
      exact Bf_oP (fun _ => Bf_ox (kb_f_X7_emit__P _ _ _ _ hb) (fun _ h1041 => Bf_oP (fun _ => Bf_oP (fun _ => Bf_ite (Bf_ite (ih _ _ _ h1041) (ih _ _ _ h1041)) (Bf_no)))))
    | 3 =>
      refine Bf_eq (by rw [f_X5_keepTarget]) ?_
      exact ih _ _ _ hb
    | 4 =>
      refine Bf_eq (by rw [f_X5_keepTarget]) ?_
      exact ih _ _ _ hb
    | 5 =>
      refine Bf_eq (by rw [f_X5_keepTarget]) ?_
      exact ih _ _ _ hb
    | 6 =>
      refine Bf_eq (by rw [f_X5_keepTarget]) ?_
      exact Bf_oP (fun _ => Bf_ite (Bf_ox (kb_f_X7_emit__P _ _ _ _ hb) (fun _ h1042 => Bf_oP (fun _ => Bf_ox (kb_f_X7_word__P _ _ _ _ h1042) (fun _ h1043 => Bf_oP (fun _ => Bf_ox (kb_f_X7_word__P _ _ _ _ h1043) (fun _ h1044 => ih _ _ _ h1044)))))) (Bf_no))
    | 7 =>
      refine Bf_eq (by rw [f_X5_keepTarget]) ?_
      exact Bf_ite (ih _ _ _ hb) (Bf_oP (fun _ => Bf_ite (Bf_ox (kb_f_X7_word__P _ _ _ _ hb) (fun _ h1045 => ih _ _ _ h1045)) (Bf_no)))
    | 8 =>
      refine Bf_eq (by rw [f_X5_keepTarget]) ?_
      exact Bf_oP (fun _ => Bf_ox (kb_f_X7_emit__P _ _ _ _ hb) (fun _ h1046 => Bf_oP (fun _ => Bf_oP (fun _ => Bf_ox (kb_f_X5_keep__A0 _ _ _ _ h1046) (fun _ h1047 => Bf_oP (fun _ => Bf_so (BY_I (nF_P _ (by decide)) h1047)))))))
    | b + 9 =>
      exact Bf_eq (by rw [f_X5_keepTarget]) Bf_no
theorem kb_f_X7_words__P__z42 {P : Prop} : ∀ (k b : Nat) (L : LV) (σ : CS), BY P σ → Bf P (f_X7_words__P__z42 k b L σ) := by
  intro k
  induction k with
  | zero => intro b L σ _; exact Bf_no
  | succ k ih =>
    intro b L σ hb
    match b with
    | 0 =>
      refine Bf_eq (by rw [f_X7_words__P__z42]) ?_
      exact Bf_ox (kb_f_X7_widen__P _ _ _ _ hb) (fun _ h1048 => Bf_ite (ih _ _ _ (BY_F (nB_0 _) h1048)) (Bf_no))
    | 1 =>
      refine Bf_eq (by rw [f_X7_words__P__z42]) ?_
      exact Bf_so (BY_I (nF_P _ (by decide)) hb)
    | b + 2 =>
      exact Bf_eq (by rw [f_X7_words__P__z42]) Bf_no
theorem kb_f_X5_call {P : Prop} : ∀ (k b : Nat) (L : LV) (σ : CS), BY P σ → Bf P (f_X5_call k b L σ) := by
  intro k
  induction k with
  | zero => intro b L σ _; exact Bf_no
  | succ k ih =>
    intro b L σ hb
    match b with
    | 0 =>
      refine Bf_eq (by rw [f_X5_call]) ?_
      exact Bf_oP (fun _ => Bf_ite (Bf_oP (fun _ => Bf_ox (kb_f_X7_emit__P _ _ _ _ hb) (fun _ h1049 => Bf_ox (kb_f_X5_opens _ _ _ _ h1049) (fun _ h1050 => Bf_ite (ih _ _ _ h1050) (ih _ _ _ h1050))))) (Bf_no))
    | 1 =>
      refine Bf_eq (by rw [f_X5_call]) ?_
      exact ih _ _ _ hb
    | 2 =>
      refine Bf_eq (by rw [f_X5_call]) ?_
      exact ih _ _ _ hb
    | 3 =>
      refine Bf_eq (by rw [f_X5_call]) ?_
      exact Bf_ite (ih _ _ _ hb) (Bf_ite (ih _ _ _ hb) (Bf_oP (fun _ => Bf_ox (kb_f_X5_exp _ _ _ _ hb) (fun _ h1051 => Bf_ite (ih _ _ _ h1051) (Bf_oP (fun _ => Bf_op (kb_y_X7_mode__P _ _ _ _ h1051) (fun _ h1052 => ih _ _ _ h1052)))))))
    | 4 =>
      refine Bf_eq (by rw [f_X5_call]) ?_
      exact Bf_ox (kb_f_X5_want _ _ _ _ hb) (fun _ h1053 => Bf_ite (ih _ _ _ h1053) (Bf_ox (kb_f_X5_refuse _ _ _ _ h1053) (fun _ h1054 => ih _ _ _ h1054)))
    | 5 =>
      refine Bf_eq (by rw [f_X5_call]) ?_
      exact ih _ _ _ hb
    | 6 =>
      refine Bf_eq (by rw [f_X5_call]) ?_
      exact Bf_ite (ih _ _ _ hb) (Bf_ite (Bf_oP (fun _ => Bf_ite (ih _ _ _ hb) (ih _ _ _ hb))) (ih _ _ _ hb))
    | 7 =>
      refine Bf_eq (by rw [f_X5_call]) ?_
      exact Bf_ox (kb_f_X5_closes _ _ _ _ hb) (fun _ h1055 => Bf_oP (fun _ => Bf_ox (kb_f_X7_emit__P _ _ _ _ h1055) (fun _ h1056 => Bf_oP (fun _ => Bf_ox (kb_f_X7_words__P__z42 _ _ _ _ h1056) (fun _ h1057 => Bf_oP (fun _ => Bf_ox (kb_f_X7_words__P__z42 _ _ _ _ h1057) (fun _ h1058 => Bf_so h1058)))))))
    | 8 =>
      refine Bf_eq (by rw [f_X5_call]) ?_
      exact Bf_ite (Bf_oP (fun _ => Bf_ox (kb_f_X5_push _ _ _ _ (BY_I (nF_P _ (by decide)) hb)) (fun _ h1059 => ih _ _ _ h1059))) (ih _ _ _ hb)
    | 9 =>
      refine Bf_eq (by rw [f_X5_call]) ?_
      exact Bf_ox (kb_f_X5_refuse _ _ _ _ hb) (fun _ h1060 => ih _ _ _ h1060)
    | 10 =>
      refine Bf_eq (by rw [f_X5_call]) ?_
      exact Bf_ox (kb_f_X5_keepTarget _ _ _ _ hb) (fun _ h1061 => ih _ _ _ h1061)
    | 11 =>
      refine Bf_eq (by rw [f_X5_call]) ?_
      exact Bf_ite (ih _ _ _ hb) (ih _ _ _ hb)
    | 12 =>
      refine Bf_eq (by rw [f_X5_call]) ?_
      exact ih _ _ _ hb
    | 13 =>
      refine Bf_eq (by rw [f_X5_call]) ?_
      exact Bf_ite (ih _ _ _ hb) (Bf_ox (kb_f_X2_advance _ _ _ _ hb) (fun _ h1062 => ih _ _ _ h1062))
    | 14 =>
      refine Bf_eq (by rw [f_X5_call]) ?_
      exact ih _ _ _ hb
    | b + 15 =>
      exact Bf_eq (by rw [f_X5_call]) Bf_no
theorem kb_f_X5_target {P : Prop} : ∀ (k b : Nat) (L : LV) (σ : CS), BY P σ → Bf P (f_X5_target k b L σ) := by
  intro k
  induction k with
  | zero => intro b L σ _; exact Bf_no
  | succ k ih =>
    intro b L σ hb
    match b with
    | 0 =>
      refine Bf_eq (by rw [f_X5_target]) ?_
      exact Bf_ite (Bf_ox (kb_f_X5_want _ _ _ _ hb) (fun _ h1063 => Bf_ox (kb_f_X5_takenName _ _ _ _ h1063) (fun _ h1064 => Bf_ite (ih _ _ _ h1064) (Bf_oP (fun _ => Bf_ite (Bf_ite (ih _ _ _ h1064) (ih _ _ _ h1064)) (Bf_no)))))) (ih _ _ _ hb)
    | 1 =>
      refine Bf_eq (by rw [f_X5_target]) ?_
      exact Bf_oP (fun _ => Bf_ite (Bf_ox (kb_f_X5_mark _ _ _ _ hb) (fun _ h1065 => Bf_oP (fun _ => Bf_ite (Bf_ox (kb_f_X5_mark _ _ _ _ h1065) (fun _ h1066 => Bf_ox (kb_f_X5_mark _ _ _ _ h1066) (fun _ h1067 => Bf_ox (kb_f_X5_mark _ _ _ _ h1067) (fun _ h1068 => ih _ _ _ h1068)))) (Bf_no)))) (Bf_no))
    | 2 =>
      refine Bf_eq (by rw [f_X5_target]) ?_
      exact Bf_ox (kb_f_X5_refuse _ _ _ _ hb) (fun _ h1069 => ih _ _ _ h1069)
    | 3 =>
      refine Bf_eq (by rw [f_X5_target]) ?_
      exact Bf_ite (ih _ _ _ hb) (Bf_ite (ih _ _ _ hb) (Bf_ite (ih _ _ _ hb) (ih _ _ _ hb)))
    | 4 =>
      refine Bf_eq (by rw [f_X5_target]) ?_
      exact Bf_so hb
    | 5 =>
      refine Bf_eq (by rw [f_X5_target]) ?_
      exact Bf_ox (kb_f_X5_part _ _ _ _ hb) (fun _ h1070 => Bf_ox (kb_f_X5_mark _ _ _ _ h1070) (fun _ h1071 => Bf_ite (Bf_ite (ih _ _ _ h1071) (ih _ _ _ h1071)) (Bf_no)))
    | 6 =>
      refine Bf_eq (by rw [f_X5_target]) ?_
      exact ih _ _ _ hb
    | 7 =>
      refine Bf_eq (by rw [f_X5_target]) ?_
      exact Bf_ite (Bf_ite (Bf_ite (ih _ _ _ (BY_A (by decide) (BY_A (by decide) hb))) (Bf_no)) (Bf_no)) (Bf_no)
    | b + 8 =>
      exact Bf_eq (by rw [f_X5_target]) Bf_no
theorem kb_f_X5_postponeTarget {P : Prop} : ∀ (k b : Nat) (L : LV) (σ : CS), BY P σ → Bf P (f_X5_postponeTarget k b L σ) := by
  intro k
  induction k with
  | zero => intro b L σ _; exact Bf_no
  | succ k ih =>
    intro b L σ hb
    match b with
    | 0 =>
      refine Bf_eq (by rw [f_X5_postponeTarget]) ?_
      exact Bf_oP (fun _ => Bf_oP (fun _ => Bf_ox (kb_f_X5_keep__A0 _ _ _ _ (BY_I (by decide) hb)) (fun _ h1072 => Bf_oP (fun _ => Bf_ox (kb_f_X2_advance _ _ _ _ (BY_I (nF_P _ (by decide)) h1072)) (fun _ h1073 => Bf_ite (ih _ _ _ h1073) (Bf_ox (kb_f_X5_refuse _ _ _ _ h1073) (fun _ h1074 => ih _ _ _ h1074)))))))
    | 1 =>
      refine Bf_eq (by rw [f_X5_postponeTarget]) ?_
      exact Bf_so hb
    | b + 2 =>
      exact Bf_eq (by rw [f_X5_postponeTarget]) Bf_no
theorem kb_f_X7_words__P__z41 {P : Prop} : ∀ (k b : Nat) (L : LV) (σ : CS), BY P σ → Bf P (f_X7_words__P__z41 k b L σ) := by
  intro k
  induction k with
  | zero => intro b L σ _; exact Bf_no
  | succ k ih =>
    intro b L σ hb
    match b with
    | 0 =>
      refine Bf_eq (by rw [f_X7_words__P__z41]) ?_
      exact Bf_ox (kb_f_X7_widen__P _ _ _ _ hb) (fun _ h1075 => Bf_ite (ih _ _ _ (BY_F (nB_0 _) h1075)) (Bf_no))
    | 1 =>
      refine Bf_eq (by rw [f_X7_words__P__z41]) ?_
      exact Bf_so (BY_I (nF_P _ (by decide)) hb)
    | b + 2 =>
      exact Bf_eq (by rw [f_X7_words__P__z41]) Bf_no
theorem kb_f_X5_emitTarget {P : Prop} : ∀ (k b : Nat) (L : LV) (σ : CS), BY P σ → Bf P (f_X5_emitTarget k b L σ) := by
  intro k
  induction k with
  | zero => intro b L σ _; exact Bf_no
  | succ k ih =>
    intro b L σ hb
    match b with
    | 0 =>
      refine Bf_eq (by rw [f_X5_emitTarget]) ?_
      exact Bf_ite (Bf_ite (ih _ _ _ hb) (ih _ _ _ hb)) (Bf_no)
    | 1 =>
      refine Bf_eq (by rw [f_X5_emitTarget]) ?_
      exact ih _ _ _ hb
    | 2 =>
      refine Bf_eq (by rw [f_X5_emitTarget]) ?_
      exact Bf_oP (fun _ => Bf_ite (Bf_ox (kb_f_X7_emit__P _ _ _ _ hb) (fun _ h1076 => Bf_oP (fun _ => Bf_ox (kb_f_X7_word__P _ _ _ _ h1076) (fun _ h1077 => Bf_oP (fun _ => Bf_ite (Bf_ox (kb_f_X7_word__P _ _ _ _ h1077) (fun _ h1078 => Bf_oP (fun _ => Bf_ite (Bf_ox (kb_f_X7_words__P__z41 _ _ _ _ h1078) (fun _ h1079 => Bf_so h1079)) (Bf_no)))) (Bf_no)))))) (Bf_no))
    | b + 3 =>
      exact Bf_eq (by rw [f_X5_emitTarget]) Bf_no
theorem kb_f_X5_assignResult {P : Prop} : ∀ (k b : Nat) (L : LV) (σ : CS), BY P σ → Bf P (f_X5_assignResult k b L σ) := by
  intro k
  induction k with
  | zero => intro b L σ _; exact Bf_no
  | succ k ih =>
    intro b L σ hb
    match b with
    | 0 =>
      refine Bf_eq (by rw [f_X5_assignResult]) ?_
      exact Bf_ite (Bf_oP (fun _ => Bf_oP (fun _ => Bf_ite (Bf_ox (kb_f_X7_emit__P _ _ _ _ hb) (fun _ h1080 => Bf_ox (kb_f_X5_emitTarget _ _ _ _ h1080) (fun _ h1081 => Bf_oP (fun _ => Bf_oP (fun _ => Bf_ite (Bf_ox (kb_f_X7_emit__P _ _ _ _ h1081) (fun _ h1082 => Bf_so h1082)) (Bf_no)))))) (Bf_no)))) (Bf_no)
    | b + 1 =>
      exact Bf_eq (by rw [f_X5_assignResult]) Bf_no
theorem kb_f_X5_assignment {P : Prop} : ∀ (k b : Nat) (L : LV) (σ : CS), BY P σ → Bf P (f_X5_assignment k b L σ) := by
  intro k
  induction k with
  | zero => intro b L σ _; exact Bf_no
  | succ k ih =>
    intro b L σ hb
    match b with
    | 0 =>
      refine Bf_eq (by rw [f_X5_assignment]) ?_
      exact Bf_ite (Bf_ite (Bf_ite (Bf_ox (kb_f_X2_advance _ _ _ _ hb) (fun _ h1083 => Bf_oP (fun _ => Bf_ox (kb_f_X7_emit__P _ _ _ _ h1083) (fun _ h1084 => ih _ _ _ h1084)))) (ih _ _ _ hb)) (Bf_no)) (ih _ _ _ hb)
    | 1 =>
      refine Bf_eq (by rw [f_X5_assignment]) ?_
      exact Bf_ox (kb_f_X5_exp _ _ _ _ hb) (fun _ h1085 => ih _ _ _ h1085)
    | 2 =>
      refine Bf_eq (by rw [f_X5_assignment]) ?_
      exact Bf_ite (Bf_ox (kb_f_X5_emitTarget _ _ _ _ hb) (fun _ h1086 => Bf_oP (fun _ => Bf_ite (Bf_ox (kb_f_X7_emit__P _ _ _ _ h1086) (fun _ h1087 => Bf_so h1087)) (Bf_no)))) (Bf_no)
    | b + 3 =>
      exact Bf_eq (by rw [f_X5_assignment]) Bf_no
theorem kb_f_X5_operation {P : Prop} : ∀ (k b : Nat) (L : LV) (σ : CS), BY P σ → Bf P (f_X5_operation k b L σ) := by
  intro k
  induction k with
  | zero => intro b L σ _; exact Bf_no
  | succ k ih =>
    intro b L σ hb
    match b with
    | 0 =>
      refine Bf_eq (by rw [f_X5_operation]) ?_
      exact Bf_ox (kb_f_X2_advance _ _ _ _ hb) (fun _ h1088 => Bf_ox (kb_f_X5_expect _ _ _ _ h1088) (fun _ h1089 => Bf_ox (kb_f_X5_exp _ _ _ _ h1089) (fun _ h1090 => Bf_ite (Bf_ox (kb_f_X5_emitTarget _ _ _ _ h1090) (fun _ h1091 => Bf_oP (fun _ => Bf_ox (kb_f_X7_emit__P _ _ _ _ h1091) (fun _ h1092 => Bf_oP (fun _ => Bf_ite (ih _ _ _ h1092) (ih _ _ _ h1092)))))) (Bf_no))))
    | 1 =>
      refine Bf_eq (by rw [f_X5_operation]) ?_
      exact Bf_ite (ih _ _ _ hb) (ih _ _ _ hb)
    | 2 =>
      refine Bf_eq (by rw [f_X5_operation]) ?_
      exact Bf_ox (kb_f_X7_emit__P _ _ _ _ hb) (fun _ h1093 => Bf_ite (Bf_ox (kb_f_X5_emitTarget _ _ _ _ h1093) (fun _ h1094 => Bf_oP (fun _ => Bf_ite (Bf_ox (kb_f_X7_emit__P _ _ _ _ h1094) (fun _ h1095 => Bf_so h1095)) (Bf_no)))) (Bf_no))
    | 3 =>
      refine Bf_eq (by rw [f_X5_operation]) ?_
      exact ih _ _ _ hb
    | b + 4 =>
      exact Bf_eq (by rw [f_X5_operation]) Bf_no
theorem kb_f_X5_taking {P : Prop} : ∀ (k b : Nat) (L : LV) (σ : CS), BY P σ → Bf P (f_X5_taking k b L σ) := by
  intro k
  induction k with
  | zero => intro b L σ _; exact Bf_no
  | succ k ih =>
    intro b L σ hb
    match b with
    | 0 =>
      refine Bf_eq (by rw [f_X5_taking]) ?_
      exact Bf_ite (Bf_ite (Bf_ox (kb_f_X5_emitTarget _ _ _ _ hb) (fun _ h1096 => Bf_oP (fun _ => Bf_ox (kb_f_X7_emit__P _ _ _ _ h1096) (fun _ h1097 => Bf_oP (fun _ => Bf_ox (kb_f_X7_word__P _ _ _ _ h1097) (fun _ h1098 => Bf_ox (kb_f_X5_emitTarget _ _ _ _ h1098) (fun _ h1099 => Bf_oP (fun _ => Bf_oP (fun _ => Bf_ite (Bf_oP (fun _ => Bf_ox (kb_f_X7_emit__P _ _ _ _ (BY_A (nB_0 _) h1099)) (fun _ h1100 => Bf_ox (kb_f_X5_emitTarget _ _ _ _ h1100) (fun _ h1101 => Bf_oP (fun _ => Bf_ox (kb_f_X7_emit__P _ _ _ _ h1101) (fun _ h1102 => Bf_so h1102)))))) (Bf_no)))))))))) (Bf_no)) (Bf_no)
    | b + 1 =>
      exact Bf_eq (by rw [f_X5_taking]) Bf_no
theorem kb_f_X5_nameStatement {P : Prop} : ∀ (k b : Nat) (L : LV) (σ : CS), BY P σ → Bf P (f_X5_nameStatement k b L σ) := by
  intro k
  induction k with
  | zero => intro b L σ _; exact Bf_no
  | succ k ih =>
    intro b L σ hb
    match b with
    | 0 =>
      refine Bf_eq (by rw [f_X5_nameStatement]) ?_
      exact Bf_ox (kb_f_X5_takenName _ _ _ _ hb) (fun _ h1103 => Bf_ite (ih _ _ _ h1103) (ih _ _ _ h1103))
    | 1 =>
      refine Bf_eq (by rw [f_X5_nameStatement]) ?_
      exact Bf_oP (fun _ => Bf_ite (ih _ _ _ hb) (Bf_no))
    | 2 =>
      refine Bf_eq (by rw [f_X5_nameStatement]) ?_
      exact Bf_ite (ih _ _ _ hb) (Bf_ite (Bf_ite (ih _ _ _ hb) (ih _ _ _ hb)) (ih _ _ _ hb))
    | 3 =>
      refine Bf_eq (by rw [f_X5_nameStatement]) ?_
      exact Bf_ox (kb_f_X5_refuse _ _ _ _ hb) (fun _ h1104 => ih _ _ _ h1104)
    | 4 =>
      refine Bf_eq (by rw [f_X5_nameStatement]) ?_
      exact Bf_ite (Bf_oP (fun _ => Bf_ite (Bf_ox (kb_f_X5_call _ _ _ _ (BY_I (by decide) hb)) (fun _ h1105 => Bf_oP (fun _ => Bf_oP (fun _ => Bf_oP (fun _ => Bf_ite (Bf_ite (Bf_ox (kb_f_X7_emit__P _ _ _ _ h1105) (fun _ h1106 => Bf_so h1106)) (Bf_no)) (Bf_no)))))) (Bf_no))) (ih _ _ _ hb)
    | 5 =>
      refine Bf_eq (by rw [f_X5_nameStatement]) ?_
      exact Bf_oP (fun _ => Bf_ox (kb_f_X5_target _ _ _ _ hb) (fun _ h1107 => Bf_ite (ih _ _ _ h1107) (Bf_ite (ih _ _ _ h1107) (Bf_ite (ih _ _ _ h1107) (Bf_ite (ih _ _ _ h1107) (Bf_ite (ih _ _ _ h1107) (Bf_ite (ih _ _ _ h1107) (Bf_ite (ih _ _ _ h1107) (ih _ _ _ h1107)))))))))
    | 6 =>
      refine Bf_eq (by rw [f_X5_nameStatement]) ?_
      exact Bf_ox (kb_f_X2_advance _ _ _ _ hb) (fun _ h1108 => Bf_ite (Bf_oP (fun _ => Bf_op (kb_y_X7_found__P _ _ _ _ h1108) (fun _ h1109 => ih _ _ _ h1109))) (ih _ _ _ h1108))
    | 7 =>
      refine Bf_eq (by rw [f_X5_nameStatement]) ?_
      exact Bf_ox (kb_f_X5_operation _ _ _ _ hb) (fun _ h1110 => ih _ _ _ h1110)
    | 8 =>
      refine Bf_eq (by rw [f_X5_nameStatement]) ?_
      exact Bf_ox (kb_f_X2_advance _ _ _ _ hb) (fun _ h1111 => Bf_ox (kb_f_X5_target _ _ _ _ h1111) (fun _ h1112 => Bf_ox (kb_f_X5_taking _ _ _ _ h1112) (fun _ h1113 => ih _ _ _ h1113)))
    | 9 =>
      refine Bf_eq (by rw [f_X5_nameStatement]) ?_
      exact Bf_ox (kb_f_X5_refuse _ _ _ _ hb) (fun _ h1114 => ih _ _ _ h1114)
    | 10 =>
      refine Bf_eq (by rw [f_X5_nameStatement]) ?_
      exact ih _ _ _ hb
    | 11 =>
      refine Bf_eq (by rw [f_X5_nameStatement]) ?_
      exact Bf_ite (ih _ _ _ hb) (Bf_oP (fun _ => Bf_ite (Bf_ite (Bf_ox (kb_f_X5_postponeTarget _ _ _ _ hb) (fun _ h1115 => Bf_oP (fun _ => Bf_ite (Bf_ox (kb_f_X5_call _ _ _ _ h1115) (fun _ h1116 => Bf_oP (fun _ => Bf_ite (Bf_ox (kb_f_X5_assignResult _ _ _ _ h1116) (fun _ h1117 => ih _ _ _ h1117)) (Bf_no)))) (Bf_no)))) (ih _ _ _ hb)) (Bf_no)))
    | 12 =>
      refine Bf_eq (by rw [f_X5_nameStatement]) ?_
      exact Bf_so (BY_I (by decide) hb)
    | 13 =>
      refine Bf_eq (by rw [f_X5_nameStatement]) ?_
      exact Bf_ox (kb_f_X5_assignment _ _ _ _ hb) (fun _ h1118 => ih _ _ _ h1118)
    | b + 14 =>
      exact Bf_eq (by rw [f_X5_nameStatement]) Bf_no
theorem kb_f_X5_markNoTarget {P : Prop} : ∀ (k b : Nat) (L : LV) (σ : CS), BY P σ → Bf P (f_X5_markNoTarget k b L σ) := by
  intro k
  induction k with
  | zero => intro b L σ _; exact Bf_no
  | succ k ih =>
    intro b L σ hb
    match b with
    | 0 =>
      refine Bf_eq (by rw [f_X5_markNoTarget]) ?_
      exact Bf_ox (kb_f_X5_mark _ _ _ _ hb) (fun _ h1119 => Bf_ox (kb_f_X5_mark _ _ _ _ h1119) (fun _ h1120 => Bf_ox (kb_f_X5_mark _ _ _ _ h1120) (fun _ h1121 => Bf_ox (kb_f_X5_mark _ _ _ _ h1121) (fun _ h1122 => Bf_so h1122))))
    | b + 1 =>
      exact Bf_eq (by rw [f_X5_markNoTarget]) Bf_no
theorem kb_f_X5_writeHoles {P : Prop} : ∀ (k b : Nat) (L : LV) (σ : CS), BY P σ → Bf P (f_X5_writeHoles k b L σ) := by
  intro k
  induction k with
  | zero => intro b L σ _; exact Bf_no
  | succ k ih =>
    intro b L σ hb
    match b with
    | 0 =>
      refine Bf_eq (by rw [f_X5_writeHoles]) ?_
      exact Bf_oP (fun _ => Bf_ox (kb_f_X7_emit__P _ _ _ _ hb) (fun _ h1123 => ih _ _ _ h1123))
    | 1 =>
      refine Bf_eq (by rw [f_X5_writeHoles]) ?_
      exact Bf_ite (ih _ _ _ hb) (Bf_ite (Bf_ite (ih _ _ _ hb) (Bf_oP (fun _ => Bf_ox (kb_f_X7_emit__P _ _ _ _ hb) (fun _ h1124 => Bf_ox (kb_f_X5_emitTarget _ _ _ _ h1124) (fun _ h1125 => Bf_oP (fun _ => Bf_ox (kb_f_X7_emit__P _ _ _ _ h1125) (fun _ h1126 => ih _ _ _ h1126))))))) (Bf_no))
    | 2 =>
      refine Bf_eq (by rw [f_X5_writeHoles]) ?_
      exact Bf_oP (fun _ => Bf_ox (kb_f_X7_emit__P _ _ _ _ hb) (fun _ h1127 => Bf_so h1127))
    | 3 =>
      refine Bf_eq (by rw [f_X5_writeHoles]) ?_
      exact Bf_ite (Bf_ite (ih _ _ _ hb) (Bf_no)) (Bf_no)
    | b + 4 =>
      exact Bf_eq (by rw [f_X5_writeHoles]) Bf_no
theorem kb_f_X5_holesStatement {P : Prop} : ∀ (k b : Nat) (L : LV) (σ : CS), BY P σ → Bf P (f_X5_holesStatement k b L σ) := by
  intro k
  induction k with
  | zero => intro b L σ _; exact Bf_no
  | succ k ih =>
    intro b L σ hb
    match b with
    | 0 =>
      refine Bf_eq (by rw [f_X5_holesStatement]) ?_
      exact Bf_ox (kb_f_X5_opens _ _ _ _ hb) (fun _ h1128 => ih _ _ _ h1128)
    | 1 =>
      refine Bf_eq (by rw [f_X5_holesStatement]) ?_
      exact Bf_ite (ih _ _ _ hb) (Bf_ite (ih _ _ _ hb) (Bf_ite (Bf_ox (kb_f_X2_advance _ _ _ _ hb) (fun _ h1129 => Bf_ox (kb_f_X5_markNoTarget _ _ _ _ h1129) (fun _ h1130 => ih _ _ _ h1130))) (ih _ _ _ hb)))
    | 2 =>
      refine Bf_eq (by rw [f_X5_holesStatement]) ?_
      exact Bf_ox (kb_f_X5_closes _ _ _ _ hb) (fun _ h1131 => Bf_ox (kb_f_X5_expect _ _ _ _ h1131) (fun _ h1132 => Bf_ox (kb_f_X5_exp _ _ _ _ h1132) (fun _ h1133 => Bf_ox (kb_f_X5_writeHoles _ _ _ _ h1133) (fun _ h1134 => Bf_so (BY_I (by decide) h1134)))))
    | 3 =>
      refine Bf_eq (by rw [f_X5_holesStatement]) ?_
      exact Bf_ox (kb_f_X5_target _ _ _ _ hb) (fun _ h1135 => Bf_ite (ih _ _ _ h1135) (Bf_no))
    | 4 =>
      refine Bf_eq (by rw [f_X5_holesStatement]) ?_
      exact Bf_ite (ih _ _ _ hb) (ih _ _ _ hb)
    | 5 =>
      refine Bf_eq (by rw [f_X5_holesStatement]) ?_
      exact ih _ _ _ hb
    | 6 =>
      refine Bf_eq (by rw [f_X5_holesStatement]) ?_
      exact Bf_ite (ih _ _ _ hb) (Bf_ox (kb_f_X2_advance _ _ _ _ hb) (fun _ h1136 => ih _ _ _ h1136))
    | 7 =>
      refine Bf_eq (by rw [f_X5_holesStatement]) ?_
      exact ih _ _ _ hb
    | b + 8 =>
      exact Bf_eq (by rw [f_X5_holesStatement]) Bf_no
theorem kb_f_X5_plainStatement {P : Prop} : ∀ (k b : Nat) (L : LV) (σ : CS), BY P σ → Bf P (f_X5_plainStatement k b L σ) := by
  intro k
  induction k with
  | zero => intro b L σ _; exact Bf_no
  | succ k ih =>
    intro b L σ hb
    match b with
    | 0 =>
      refine Bf_eq (by rw [f_X5_plainStatement]) ?_
      exact Bf_ox (kb_f_X2_advance _ _ _ _ hb) (fun _ h1137 => Bf_ite (ih _ _ _ h1137) (Bf_ite (ih _ _ _ h1137) (Bf_ite (ih _ _ _ h1137) (Bf_ite (ih _ _ _ h1137) (Bf_ite (ih _ _ _ h1137) (Bf_ite (ih _ _ _ h1137) (Bf_ite (ih _ _ _ h1137) (ih _ _ _ h1137))))))))
    | 1 =>
      refine Bf_eq (by rw [f_X5_plainStatement]) ?_
      exact Bf_oP (fun _ => Bf_ox (kb_f_X7_emit__P _ _ _ _ hb) (fun _ h1138 => ih _ _ _ (BY_I (by decide) h1138)))
    | 2 =>
      refine Bf_eq (by rw [f_X5_plainStatement]) ?_
      exact Bf_oP (fun _ => Bf_oP (fun _ => Bf_ox (kb_f_X7_emit__P _ _ _ _ hb) (fun _ h1139 => Bf_op (kb_y_X7_aim__P _ _ _ _ h1139) (fun _ h1140 => ih _ _ _ h1140))))
    | 3 =>
      refine Bf_eq (by rw [f_X5_plainStatement]) ?_
      exact Bf_ite (Bf_ox (kb_f_X5_push _ _ _ _ hb) (fun _ h1141 => ih _ _ _ h1141)) (ih _ _ _ hb)
    | 4 =>
      refine Bf_eq (by rw [f_X5_plainStatement]) ?_
      exact Bf_oP (fun _ => Bf_ox (kb_f_X7_emit__P _ _ _ _ hb) (fun _ h1142 => ih _ _ _ h1142))
    | 5 =>
      refine Bf_eq (by rw [f_X5_plainStatement]) ?_
      exact Bf_ox (kb_f_X5_exp _ _ _ _ hb) (fun _ h1143 => Bf_oP (fun _ => Bf_ox (kb_f_X7_emit__P _ _ _ _ h1143) (fun _ h1144 => ih _ _ _ h1144)))
    | 6 =>
      refine Bf_eq (by rw [f_X5_plainStatement]) ?_
      exact Bf_oP (fun _ => Bf_ox (kb_f_X7_emit__P _ _ _ _ hb) (fun _ h1145 => ih _ _ _ h1145))
    | 7 =>
      refine Bf_eq (by rw [f_X5_plainStatement]) ?_
      exact Bf_oP (fun _ => Bf_ox (kb_f_X7_emit__P _ _ _ _ hb) (fun _ h1146 => ih _ _ _ h1146))
    | 8 =>
      refine Bf_eq (by rw [f_X5_plainStatement]) ?_
      exact Bf_so hb
    | 9 =>
      refine Bf_eq (by rw [f_X5_plainStatement]) ?_
      exact Bf_ox (kb_f_X5_exp _ _ _ _ hb) (fun _ h1147 => ih _ _ _ h1147)
    | 10 =>
      refine Bf_eq (by rw [f_X5_plainStatement]) ?_
      exact Bf_oP (fun _ => Bf_ox (kb_f_X7_emit__P _ _ _ _ hb) (fun _ h1148 => ih _ _ _ h1148))
    | b + 11 =>
      exact Bf_eq (by rw [f_X5_plainStatement]) Bf_no
theorem kb_t_X5_block {P : Prop} {X : Nat → Nat → Nat → LV → CS → Option RS} (hX : ∀ e m b L (σ : CS), BY P σ → Bf P (X e m b L σ)) (K d b : Nat) (L : LV) (σ : CS) (hb : BY P σ) : Bf P (t_X5_block X K d b L σ) := by
  match b with
  | 0 => exact hX _ _ _ _ _ hb
  | 1 => exact Bf_ite (hX _ _ _ _ _ hb) (Bf_op (kb_y_X5_beginsStatement _ _ _ _ hb) (fun _ h1149 => Bf_ite (hX _ _ _ _ _ h1149) (Bf_ox (kb_f_X5_checkStatement _ _ _ _ h1149) (fun _ h1150 => Bf_oP (fun _ => Bf_oP (fun _ => Bf_ox (kb_f_X7_emit__P _ _ _ _ (BY_I (nF_P _ (by decide)) h1150)) (fun _ h1151 => Bf_of (fun _ => Bf_ox (hX _ _ _ _ _ h1151) (fun _ h1152 => hX _ _ _ _ _ h1152)))))))))
  | 2 => exact Bf_so hb
  | b + 3 => exact Bf_no
theorem kb_t_X5_forStatement {P : Prop} {X : Nat → Nat → Nat → LV → CS → Option RS} (hX : ∀ e m b L (σ : CS), BY P σ → Bf P (X e m b L σ)) (K d b : Nat) (L : LV) (σ : CS) (hb : BY P σ) : Bf P (t_X5_forStatement X K d b L σ) := by
  match b with
  | 0 => exact Bf_oP (fun _ => Bf_oP (fun _ => Bf_ite (Bf_ox (kb_f_X5_opens _ _ _ _ hb) (fun _ h1153 => Bf_oP (fun _ => Bf_ox (kb_f_X7_emit__P _ _ _ _ h1153) (fun _ h1154 => Bf_ox (kb_f_X5_iters _ _ _ _ h1154) (fun _ h1155 => Bf_oP (fun _ => Bf_ite (Bf_oP (fun _ => Bf_ite (Bf_ite (Bf_ox (kb_f_X2_advance _ _ _ _ (BY_A (nB_0 _) h1155)) (fun _ h1156 => Bf_ox (kb_f_X5_exp _ _ _ _ h1156) (fun _ h1157 => Bf_oP (fun _ => Bf_oP (fun _ => Bf_ox (kb_f_X7_emit__P _ _ _ _ h1157) (fun _ h1158 => Bf_op (kb_y_X7_aim__P _ _ _ _ h1158) (fun _ h1159 => hX _ _ _ _ _ h1159))))))) (hX _ _ _ _ _ (BY_A (nB_0 _) h1155))) (Bf_no))) (Bf_no))))))) (Bf_no)))
  | 1 => exact Bf_ox (kb_f_X5_expect _ _ _ _ hb) (fun _ h1160 => Bf_of (fun _ => Bf_ox (hX _ _ _ _ _ h1160) (fun _ h1161 => Bf_oP (fun _ => Bf_oP (fun _ => Bf_ite (hX _ _ _ _ _ (BY_A (nB_0 _) h1161)) (Bf_no))))))
  | 2 => exact Bf_ite (hX _ _ _ _ _ hb) (Bf_oP (fun _ => Bf_ite (Bf_ox (kb_f_X7_emit__P _ _ _ _ hb) (fun _ h1162 => Bf_oP (fun _ => Bf_ite (Bf_ox (kb_f_X7_word__P _ _ _ _ h1162) (fun _ h1163 => Bf_oP (fun _ => Bf_ite (Bf_ox (kb_f_X7_word__P _ _ _ _ h1163) (fun _ h1164 => hX _ _ _ _ _ h1164)) (Bf_no)))) (Bf_no)))) (Bf_no)))
  | 3 => exact Bf_oP (fun _ => Bf_ox (kb_f_X7_emit__P _ _ _ _ hb) (fun _ h1165 => Bf_oP (fun _ => Bf_ite (Bf_oP (fun _ => hX _ _ _ _ _ (BY_I (nF_P _ (by decide)) (BY_A (nB_18 _) (BY_I (by decide) h1165))))) (Bf_no))))
  | 4 => exact Bf_so hb
  | b + 5 => exact Bf_no
theorem kb_t_X5_ifStatement {P : Prop} {X : Nat → Nat → Nat → LV → CS → Option RS} (hX : ∀ e m b L (σ : CS), BY P σ → Bf P (X e m b L σ)) (K d b : Nat) (L : LV) (σ : CS) (hb : BY P σ) : Bf P (t_X5_ifStatement X K d b L σ) := by
  match b with
  | 0 => exact Bf_ox (kb_f_X5_opens _ _ _ _ hb) (fun _ h1166 => Bf_ite (Bf_ox (kb_f_X2_advance _ _ _ _ h1166) (fun _ h1167 => Bf_oP (fun _ => Bf_ox (kb_f_X7_emit__P _ _ _ _ h1167) (fun _ h1168 => hX _ _ _ _ _ h1168)))) (hX _ _ _ _ _ h1166))
  | 1 => exact Bf_ox (kb_f_X5_exp _ _ _ _ hb) (fun _ h1169 => hX _ _ _ _ _ h1169)
  | 2 => exact Bf_ox (kb_f_X5_expect _ _ _ _ hb) (fun _ h1170 => Bf_oP (fun _ => Bf_ox (kb_f_X7_emit__P _ _ _ _ h1170) (fun _ h1171 => Bf_of (fun _ => Bf_ox (hX _ _ _ _ _ h1171) (fun _ h1172 => hX _ _ _ _ _ h1172)))))
  | 3 => exact Bf_ite (hX _ _ _ _ _ hb) (Bf_ite (Bf_oP (fun _ => Bf_ox (kb_f_X7_emit__P _ _ _ _ hb) (fun _ h1173 => Bf_oP (fun _ => Bf_oP (fun _ => Bf_op (kb_y_X7_aim__P _ _ _ _ h1173) (fun _ h1174 => Bf_ox (kb_f_X2_advance _ _ _ _ h1174) (fun _ h1175 => Bf_ox (kb_f_X5_exp _ _ _ _ h1175) (fun _ h1176 => Bf_ox (kb_f_X5_expect _ _ _ _ h1176) (fun _ h1177 => Bf_oP (fun _ => Bf_ox (kb_f_X7_emit__P _ _ _ _ h1177) (fun _ h1178 => Bf_of (fun _ => Bf_ox (hX _ _ _ _ _ h1178) (fun _ h1179 => hX _ _ _ _ _ h1179))))))))))))) (hX _ _ _ _ _ hb))
  | 4 => exact Bf_ite (Bf_oP (fun _ => Bf_ox (kb_f_X7_emit__P _ _ _ _ hb) (fun _ h1180 => Bf_oP (fun _ => Bf_oP (fun _ => Bf_op (kb_y_X7_aim__P _ _ _ _ h1180) (fun _ h1181 => Bf_ox (kb_f_X2_advance _ _ _ _ h1181) (fun _ h1182 => Bf_of (fun _ => Bf_ox (hX _ _ _ _ _ h1182) (fun _ h1183 => hX _ _ _ _ _ h1183))))))))) (hX _ _ _ _ _ hb)
  | 5 => exact Bf_ox (kb_f_X5_closes _ _ _ _ hb) (fun _ h1184 => Bf_ite (hX _ _ _ _ _ h1184) (Bf_oP (fun _ => Bf_oP (fun _ => Bf_op (kb_y_X7_aim__P _ _ _ _ h1184) (fun _ h1185 => hX _ _ _ _ _ h1185)))))
  | 6 => exact Bf_op (kb_y_X5_aimAll _ _ _ _ hb) (fun _ h1186 => Bf_so h1186)
  | b + 7 => exact Bf_no
theorem kb_t_X5_loopBody {P : Prop} {X : Nat → Nat → Nat → LV → CS → Option RS} (hX : ∀ e m b L (σ : CS), BY P σ → Bf P (X e m b L σ)) (K d b : Nat) (L : LV) (σ : CS) (hb : BY P σ) : Bf P (t_X5_loopBody X K d b L σ) := by
  match b with
  | 0 => exact Bf_of (fun _ => Bf_ox (hX _ _ _ _ _ (BY_I (by decide) (BY_I (by decide) hb))) (fun _ h1187 => Bf_ox (kb_f_X5_closes _ _ _ _ h1187) (fun _ h1188 => Bf_oP (fun _ => Bf_oP (fun _ => Bf_ox (kb_f_X7_emit__P _ _ _ _ h1188) (fun _ h1189 => Bf_op (kb_y_X7_aim__P _ _ _ _ h1189) (fun _ h1190 => Bf_op (kb_y_X5_aimAll _ _ _ _ h1190) (fun _ h1191 => hX _ _ _ _ _ (BY_I (by decide) h1191)))))))))
  | 1 => exact Bf_so (BY_I (by decide) hb)
  | b + 2 => exact Bf_no
theorem kb_t_X5_statement {P : Prop} {X : Nat → Nat → Nat → LV → CS → Option RS} (hX : ∀ e m b L (σ : CS), BY P σ → Bf P (X e m b L σ)) (K d b : Nat) (L : LV) (σ : CS) (hb : BY P σ) : Bf P (t_X5_statement X K d b L σ) := by
  match b with
  | 0 => exact Bf_ite (hX _ _ _ _ _ hb) (Bf_ite (hX _ _ _ _ _ hb) (Bf_ite (hX _ _ _ _ _ hb) (Bf_ite (hX _ _ _ _ _ hb) (Bf_ite (hX _ _ _ _ _ hb) (Bf_ite (hX _ _ _ _ _ hb) (hX _ _ _ _ _ hb))))))
  | 1 => exact Bf_ox (kb_f_X5_nameStatement _ _ _ _ hb) (fun _ h1192 => hX _ _ _ _ _ h1192)
  | 2 => exact Bf_ox (kb_f_X5_holesStatement _ _ _ _ hb) (fun _ h1193 => hX _ _ _ _ _ h1193)
  | 3 => exact Bf_of (fun _ => Bf_ox (hX _ _ _ _ _ hb) (fun _ h1194 => hX _ _ _ _ _ h1194))
  | 4 => exact Bf_of (fun _ => Bf_ox (hX _ _ _ _ _ hb) (fun _ h1195 => hX _ _ _ _ _ h1195))
  | 5 => exact Bf_of (fun _ => Bf_ox (hX _ _ _ _ _ hb) (fun _ h1196 => hX _ _ _ _ _ h1196))
  | 6 => exact Bf_ox (kb_f_X2_advance _ _ _ _ hb) (fun _ h1197 => Bf_ox (kb_f_X5_want _ _ _ _ h1197) (fun _ h1198 => Bf_ox (kb_f_X5_opens _ _ _ _ h1198) (fun _ h1199 => Bf_oP (fun _ => Bf_ox (kb_f_X5_exps _ _ _ _ h1199) (fun _ h1200 => Bf_ox (kb_f_X7_emit__P _ _ _ _ h1200) (fun _ h1201 => Bf_ox (kb_f_X5_closes _ _ _ _ h1201) (fun _ h1202 => hX _ _ _ _ _ h1202)))))))
  | 7 => exact Bf_ox (kb_f_X5_plainStatement _ _ _ _ hb) (fun _ h1203 => hX _ _ _ _ _ h1203)
  | 8 => exact Bf_ox (kb_f_X5_expect _ _ _ _ hb) (fun _ h1204 => Bf_so h1204)
  | b + 9 => exact Bf_no
theorem kb_t_X5_whileStatement {P : Prop} {X : Nat → Nat → Nat → LV → CS → Option RS} (hX : ∀ e m b L (σ : CS), BY P σ → Bf P (X e m b L σ)) (K d b : Nat) (L : LV) (σ : CS) (hb : BY P σ) : Bf P (t_X5_whileStatement X K d b L σ) := by
  match b with
  | 0 => exact Bf_ox (kb_f_X5_opens _ _ _ _ hb) (fun _ h1205 => Bf_ox (kb_f_X5_exp _ _ _ _ h1205) (fun _ h1206 => Bf_ox (kb_f_X5_expect _ _ _ _ h1206) (fun _ h1207 => Bf_oP (fun _ => Bf_ox (kb_f_X7_emit__P _ _ _ _ h1207) (fun _ h1208 => Bf_of (fun _ => Bf_ox (hX _ _ _ _ _ h1208) (fun _ h1209 => Bf_oP (fun _ => Bf_oP (fun _ => Bf_op (kb_y_X7_aim__P _ _ _ _ h1209) (fun _ h1210 => Bf_so h1210))))))))))
  | b + 1 => exact Bf_no
theorem kb_f_F3 {P : Prop} : ∀ (k d m b : Nat) (L : LV) (σ : CS), BY P σ → Bf P (f_F3 k d m b L σ) := by
  intro k
  induction k with
  | zero => intro d m b L σ _; exact Bf_no
  | succ k ih =>
    intro d m b L σ hb
    match m with
    | 0 => exact kb_t_X5_block ih k d b L σ hb
    | 1 => exact kb_t_X5_forStatement ih k d b L σ hb
    | 2 => exact kb_t_X5_ifStatement ih k d b L σ hb
    | 3 => exact kb_t_X5_loopBody ih k d b L σ hb
    | 4 => exact kb_t_X5_statement ih k d b L σ hb
    | 5 => exact kb_t_X5_whileStatement ih k d b L σ hb
    | m + 6 => exact Bf_no
theorem kb_f_X5_block {P : Prop} (k b : Nat) (L : LV) (σ : CS) (hb : BY P σ) : Bf P (f_X5_block k b L σ) := kb_f_F3 k 120 0 b L σ hb
theorem kb_f_X5_forStatement {P : Prop} (k b : Nat) (L : LV) (σ : CS) (hb : BY P σ) : Bf P (f_X5_forStatement k b L σ) := kb_f_F3 k 120 1 b L σ hb
theorem kb_f_X5_ifStatement {P : Prop} (k b : Nat) (L : LV) (σ : CS) (hb : BY P σ) : Bf P (f_X5_ifStatement k b L σ) := kb_f_F3 k 120 2 b L σ hb
theorem kb_f_X5_loopBody {P : Prop} (k b : Nat) (L : LV) (σ : CS) (hb : BY P σ) : Bf P (f_X5_loopBody k b L σ) := kb_f_F3 k 120 3 b L σ hb
theorem kb_f_X5_statement {P : Prop} (k b : Nat) (L : LV) (σ : CS) (hb : BY P σ) : Bf P (f_X5_statement k b L σ) := kb_f_F3 k 120 4 b L σ hb
theorem kb_f_X5_whileStatement {P : Prop} (k b : Nat) (L : LV) (σ : CS) (hb : BY P σ) : Bf P (f_X5_whileStatement k b L σ) := kb_f_F3 k 120 5 b L σ hb
theorem kb_f_X5_procedure {P : Prop} : ∀ (k b : Nat) (L : LV) (σ : CS), BY P σ → Bf P (f_X5_procedure k b L σ) := by
  intro k
  induction k with
  | zero => intro b L σ _; exact Bf_no
  | succ k ih =>
    intro b L σ hb
    match b with
    | 0 =>
      refine Bf_eq (by rw [f_X5_procedure]) ?_
      exact Bf_ox (kb_f_X5_tellUnit _ _ _ _ hb) (fun _ h1211 => Bf_oP (fun _ => Bf_ite (ih _ _ _ (BY_I (nF_P _ (by decide)) h1211)) (Bf_ox (kb_f_X5_modeAndParameter _ _ _ _ (BY_I (nF_P _ (by decide)) h1211)) (fun _ h1212 => ih _ _ _ h1212))))
    | 1 =>
      refine Bf_eq (by rw [f_X5_procedure]) ?_
      exact Bf_ox (kb_f_X5_closes _ _ _ _ hb) (fun _ h1213 => Bf_ox (kb_f_X5_expect _ _ _ _ h1213) (fun _ h1214 => ih _ _ _ h1214))
    | 2 =>
      refine Bf_eq (by rw [f_X5_procedure]) ?_
      exact Bf_ite (ih _ _ _ hb) (Bf_ite (Bf_ox (kb_f_X2_advance _ _ _ _ hb) (fun _ h1215 => Bf_ox (kb_f_X5_modeAndParameter _ _ _ _ h1215) (fun _ h1216 => ih _ _ _ h1216))) (ih _ _ _ hb))
    | 3 =>
      refine Bf_eq (by rw [f_X5_procedure]) ?_
      exact Bf_ite (ih _ _ _ hb) (Bf_ite (Bf_ox (kb_f_X5_variables _ _ _ _ hb) (fun _ h1217 => ih _ _ _ h1217)) (ih _ _ _ hb))
    | 4 =>
      refine Bf_eq (by rw [f_X5_procedure]) ?_
      exact Bf_ox (kb_f_X5_block _ _ _ _ hb) (fun _ h1218 => Bf_ox (kb_f_X5_expect _ _ _ _ h1218) (fun _ h1219 => Bf_ox (kb_f_X5_push _ _ _ _ h1219) (fun _ h1220 => Bf_oP (fun _ => Bf_ox (kb_f_X7_emit__P _ _ _ _ h1220) (fun _ h1221 => Bf_ox (kb_f_X5_expect _ _ _ _ h1221) (fun _ h1222 => Bf_op (kb_y_X5_closeUnit _ _ _ _ h1222) (fun _ h1223 => Bf_so h1223)))))))
    | b + 5 =>
      exact Bf_eq (by rw [f_X5_procedure]) Bf_no
theorem kb_y_X7_emptyBehind__P__P {P : Prop} : ∀ (k b : Nat) (L : LV) (σ : CS), BY P σ → By P (y_X7_emptyBehind__P__P k b L σ) := by
  intro k
  induction k with
  | zero => intro b L σ _; exact By_no
  | succ k ih =>
    intro b L σ hb
    match b with
    | 0 =>
      refine By_eq (by rw [y_X7_emptyBehind__P__P]) ?_
      exact ih _ _ _ (BY_I (nF_P _ (by decide)) (BY_I (nF_P _ (by decide)) (BY_uKd hb)))
    | 1 =>
      refine By_eq (by rw [y_X7_emptyBehind__P__P]) ?_
      exact ih _ _ _ (BY_I (nF_P _ (by decide)) (BY_I (nF_P _ (by decide)) (BY_I (nF_P _ (by decide)) hb)))
    | 2 =>
      refine By_eq (by rw [y_X7_emptyBehind__P__P]) ?_
      exact By_oc (kb_y_X7_openUnit__P _ _ _ _ (BY_I (nF_P _ (by decide)) hb)) (fun _ h1224 => By_so h1224)
    | b + 3 =>
      exact By_eq (by rw [y_X7_emptyBehind__P__P]) By_no
theorem kb_f_X5_begin__P {P : Prop} : ∀ (k b : Nat) (L : LV) (σ : CS), BY P σ → Bf P (f_X5_begin__P k b L σ) := by
  intro k
  induction k with
  | zero => intro b L σ _; exact Bf_no
  | succ k ih =>
    intro b L σ hb
    match b with
    | 0 =>
      refine Bf_eq (by rw [f_X5_begin__P]) ?_
      exact ih _ _ _ (BY_I (by decide) (BY_I (by decide) (BY_uPp hb)))
    | 1 =>
      refine Bf_eq (by rw [f_X5_begin__P]) ?_
      exact ih _ _ _ (BY_I (by decide) (BY_I (by decide) (BY_I (by decide) hb)))
    | 2 =>
      refine Bf_eq (by rw [f_X5_begin__P]) ?_
      exact ih _ _ _ (BY_I (by decide) (BY_I (by decide) (BY_I (by decide) hb)))
    | 3 =>
      refine Bf_eq (by rw [f_X5_begin__P]) ?_
      exact Bf_ox (kb_f_X2_rewind _ _ _ _ (BY_I (by decide) (BY_I (by decide) hb))) (fun _ h1225 => Bf_so h1225)
    | b + 4 =>
      exact Bf_eq (by rw [f_X5_begin__P]) Bf_no
theorem kb_f_X5_readProgram__P {P : Prop} : ∀ (k b : Nat) (L : LV) (σ : CS), BY P σ → Bf P (f_X5_readProgram__P k b L σ) := by
  intro k
  induction k with
  | zero => intro b L σ _; exact Bf_no
  | succ k ih =>
    intro b L σ hb
    match b with
    | 0 =>
      refine Bf_eq (by rw [f_X5_readProgram__P]) ?_
      exact Bf_ox (kb_f_X5_begin__P _ _ _ _ hb) (fun _ h1226 => Bf_oh (kb_f_X2_advance _ _ _ _ h1226) (fun _ h1227 => ih _ _ _ h1227) (fun _ h1228 => Bf_op (kb_y_X5_noteFault _ _ _ _ h1228) (fun _ h1229 => Bf_so h1229)))
    | 1 =>
      refine Bf_eq (by rw [f_X5_readProgram__P]) ?_
      exact Bf_ite (ih _ _ _ hb) (Bf_ite (ih _ _ _ hb) (Bf_ite (ih _ _ _ hb) (Bf_ite (Bf_oh (kb_f_X5_variables _ _ _ _ hb) (fun _ h1230 => ih _ _ _ h1230) (fun _ h1231 => Bf_op (kb_y_X5_noteFault _ _ _ _ h1231) (fun _ h1232 => Bf_so h1232))) (ih _ _ _ hb))))
    | 2 =>
      refine Bf_eq (by rw [f_X5_readProgram__P]) ?_
      exact Bf_oh (kb_f_X5_block _ _ _ _ (BY_I (nF_P _ (by decide)) hb)) (fun _ h1233 => Bf_oh (kb_f_X5_want _ _ _ _ h1233) (fun _ h1234 => Bf_oh (kb_f_X7_emit__P _ _ _ _ h1234) (fun _ h1235 => Bf_so h1235) (fun _ h1236 => Bf_op (kb_y_X5_noteFault _ _ _ _ h1236) (fun _ h1237 => Bf_so h1237))) (fun _ h1238 => Bf_op (kb_y_X5_noteFault _ _ _ _ h1238) (fun _ h1239 => Bf_so h1239))) (fun _ h1240 => Bf_op (kb_y_X5_noteFault _ _ _ _ h1240) (fun _ h1241 => Bf_so h1241))
    | 3 =>
      refine Bf_eq (by rw [f_X5_readProgram__P]) ?_
      exact Bf_ite (Bf_oh (kb_f_X5_function _ _ _ _ hb) (fun _ h1242 => ih _ _ _ h1242) (fun _ h1243 => Bf_op (kb_y_X5_noteFault _ _ _ _ h1243) (fun _ h1244 => Bf_so h1244))) (ih _ _ _ hb)
    | 4 =>
      refine Bf_eq (by rw [f_X5_readProgram__P]) ?_
      exact ih _ _ _ hb
    | 5 =>
      refine Bf_eq (by rw [f_X5_readProgram__P]) ?_
      exact Bf_oh (kb_f_X5_procedure _ _ _ _ hb) (fun _ h1245 => ih _ _ _ h1245) (fun _ h1246 => Bf_op (kb_y_X5_noteFault _ _ _ _ h1246) (fun _ h1247 => Bf_so h1247))
    | b + 6 =>
      exact Bf_eq (by rw [f_X5_readProgram__P]) Bf_no
theorem kb_f_X11_program {P : Prop} : ∀ (k b : Nat) (L : LV) (σ : CS), BY P σ → Bf P (f_X11_program k b L σ) := by
  intro k
  induction k with
  | zero => intro b L σ _; exact Bf_no
  | succ k ih =>
    intro b L σ hb
    match b with
    | 0 =>
      refine Bf_eq (by rw [f_X11_program]) ?_
      exact Bf_op (kb_y_X7_emptyBehind__P__P _ _ _ _ hb) (fun _ h1248 => Bf_ox (kb_f_X5_readProgram__P _ _ _ _ h1248) (fun _ h1249 => ih _ _ _ (BY_uKd (BY_I (by decide) (BY_I (by decide) h1249)))))
    | 1 =>
      refine Bf_eq (by rw [f_X11_program]) ?_
      exact Bf_ite (Bf_so hb) (ih _ _ _ hb)
    | 2 =>
      refine Bf_eq (by rw [f_X11_program]) ?_
      exact Bf_op (kb_y_X7_moveDown__P _ _ _ _ hb) (fun _ h1250 => ih _ _ _ (BY_I (by decide) (BY_uOt (BY_uCur h1250))))
    | 3 =>
      refine Bf_eq (by rw [f_X11_program]) ?_
      exact Bf_so (BY_I (by decide) (BY_I (by decide) hb))
    | b + 4 =>
      exact Bf_eq (by rw [f_X11_program]) Bf_no
theorem kb_f_X3_evaluate : ∀ (k b : Nat) (L : LV) (σ : CS), BY False σ → Bf False (f_X3_evaluate k b L σ) := by
  intro k
  induction k with
  | zero => intro b L σ _; exact Bf_no
  | succ k ih =>
    intro b L σ hb
    match b with
    | 0 =>
      refine Bf_eq (by rw [f_X3_evaluate]) ?_
      exact ih _ _ _ (BY_I (by decide) (BY_I (by decide) (BY_I (by decide) hb)))
    | 1 =>
      refine Bf_eq (by rw [f_X3_evaluate]) ?_
      exact Bf_ox (kb_f_X3_pushAll _ _ _ _ hb) (fun _ h1251 => Bf_ox (kb_f_X3_execute _ _ _ _ h1251) (fun _ h1252 => Bf_ite (Bf_ite (ih _ _ _ h1252) (Bf_op (kb_y_J7_fill_53178__a23 _ _ _ _ h1252) (fun _ h1253 => Bf_op (kb_y_X11_raw _ _ _ _ h1253) (fun _ h1254 => ih _ _ _ h1254)))) (Bf_no)))
    | 2 =>
      refine Bf_eq (by rw [f_X3_evaluate]) ?_
      exact ih _ _ _ (BY_I (by decide) (BY_I (by decide) (BY_I (by decide) hb)))
    | 3 =>
      refine Bf_eq (by rw [f_X3_evaluate]) ?_
      exact ih _ _ _ (BY_L (BY_I (by decide) (BY_I (by decide) hb)))
    | 4 =>
      refine Bf_eq (by rw [f_X3_evaluate]) ?_
      exact Bf_so hb
    | b + 5 =>
      exact Bf_eq (by rw [f_X3_evaluate]) Bf_no
theorem kb_f_X11_round : ∀ (k b : Nat) (L : LV) (σ : CS), BY False σ → Bf False (f_X11_round k b L σ) := by
  intro k
  induction k with
  | zero => intro b L σ _; exact Bf_no
  | succ k ih =>
    intro b L σ hb
    match b with
    | 0 =>
      refine Bf_eq (by rw [f_X11_round]) ?_
      exact Bf_ox (kb_f_X11_wantRun _ _ _ _ hb) (fun _ h1255 => ih _ _ _ h1255)
    | 1 =>
      refine Bf_eq (by rw [f_X11_round]) ?_
      exact Bf_ite (ih _ _ _ hb) (Bf_ite (Bf_ox (kb_f_X3_evaluate _ _ _ _ hb) (fun _ h1256 => Bf_op (kb_y_X11_isError _ _ _ _ h1256) (fun _ h1257 => Bf_ite (ih _ _ _ h1257) (ih _ _ _ h1257)))) (Bf_no))
    | 2 =>
      refine Bf_eq (by rw [f_X11_round]) ?_
      exact Bf_so hb
    | 3 =>
      refine Bf_eq (by rw [f_X11_round]) ?_
      exact ih _ _ _ hb
    | 4 =>
      refine Bf_eq (by rw [f_X11_round]) ?_
      exact Bf_ite (Bf_ox (kb_f_X3_makeRoom _ _ _ _ (BY_A (by decide) hb)) (fun _ h1258 => Bf_op (kb_y_X11_renew _ _ _ _ h1258) (fun _ h1259 => Bf_ite (ih _ _ _ h1259) (ih _ _ _ h1259)))) (Bf_no)
    | 5 =>
      refine Bf_eq (by rw [f_X11_round]) ?_
      exact ih _ _ _ hb
    | 6 =>
      refine Bf_eq (by rw [f_X11_round]) ?_
      exact Bf_ite (Bf_ite (ih _ _ _ (BY_A (by decide) (BY_A (by decide) hb))) (Bf_no)) (Bf_no)
    | b + 7 =>
      exact Bf_eq (by rw [f_X11_round]) Bf_no
theorem kb_f_X11_showValue {P : Prop} : ∀ (k b : Nat) (L : LV) (σ : CS), BY P σ → Bf P (f_X11_showValue k b L σ) := by
  intro k
  induction k with
  | zero => intro b L σ _; exact Bf_no
  | succ k ih =>
    intro b L σ hb
    match b with
    | 0 =>
      refine Bf_eq (by rw [f_X11_showValue]) ?_
      exact Bf_ite (Bf_ite (Bf_ite (ih _ _ _ (BY_A (by decide) (BY_A (by decide) hb))) (Bf_no)) (Bf_no)) (Bf_no)
    | 1 =>
      refine Bf_eq (by rw [f_X11_showValue]) ?_
      exact Bf_ox (kb_f_X6_print _ _ _ _ (BY_I (by decide) hb)) (fun _ h1260 => Bf_ite (Bf_ite (Bf_ite (Bf_ad (ih _ _ _ (BY_Z ⟨fun z => absurd z (by decide), fun _ => by decide⟩ (BY_I (by decide) h1260)))) (Bf_no)) (ih _ _ _ (BY_I (by decide) h1260))) (Bf_no))
    | 2 =>
      refine Bf_eq (by rw [f_X11_showValue]) ?_
      exact Bf_ite (Bf_ite (ih _ _ _ (BY_cp66 hb)) (Bf_no)) (Bf_no)
    | 3 =>
      refine Bf_eq (by rw [f_X11_showValue]) ?_
      exact Bf_so hb
    | b + 4 =>
      exact Bf_eq (by rw [f_X11_showValue]) Bf_no
theorem kb_f_X11_seen {P : Prop} : ∀ (k b : Nat) (L : LV) (σ : CS), BY P σ → Bf P (f_X11_seen k b L σ) := by
  intro k
  induction k with
  | zero => intro b L σ _; exact Bf_no
  | succ k ih =>
    intro b L σ hb
    match b with
    | 0 =>
      refine Bf_eq (by rw [f_X11_seen]) ?_
      exact Bf_ite (ih _ _ _ hb) (Bf_ite (ih _ _ _ hb) (Bf_ite (ih _ _ _ hb) (Bf_ite (ih _ _ _ hb) (ih _ _ _ hb))))
    | 1 =>
      refine Bf_eq (by rw [f_X11_seen]) ?_
      exact Bf_so hb
    | 2 =>
      refine Bf_eq (by rw [f_X11_seen]) ?_
      exact Bf_ite (Bf_ite (Bf_so hb) (ih _ _ _ hb)) (Bf_no)
    | 3 =>
      refine Bf_eq (by rw [f_X11_seen]) ?_
      exact Bf_ite (Bf_ox (kb_f_X11_showValue _ _ _ _ hb) (fun _ h1261 => Bf_so h1261)) (Bf_no)
    | b + 4 =>
      exact Bf_eq (by rw [f_X11_seen]) Bf_no
theorem kb_f_X11_shape {P : Prop} : ∀ (k b : Nat) (L : LV) (σ : CS), BY P σ → Bf P (f_X11_shape k b L σ) := by
  intro k
  induction k with
  | zero => intro b L σ _; exact Bf_no
  | succ k ih =>
    intro b L σ hb
    match b with
    | 0 =>
      refine Bf_eq (by rw [f_X11_shape]) ?_
      exact Bf_ite (ih _ _ _ hb) (Bf_ite (ih _ _ _ hb) (ih _ _ _ hb))
    | 1 =>
      refine Bf_eq (by rw [f_X11_shape]) ?_
      exact Bf_so hb
    | 2 =>
      refine Bf_eq (by rw [f_X11_shape]) ?_
      exact Bf_ite (Bf_so hb) (ih _ _ _ hb)
    | 3 =>
      refine Bf_eq (by rw [f_X11_shape]) ?_
      exact Bf_ite (Bf_so hb) (ih _ _ _ hb)
    | 4 =>
      refine Bf_eq (by rw [f_X11_shape]) ?_
      exact Bf_ite (Bf_op (kb_y_X1_kind _ _ _ _ hb) (fun _ h1262 => Bf_ite (ih _ _ _ h1262) (Bf_ite (ih _ _ _ h1262) (ih _ _ _ h1262)))) (Bf_no)
    | 5 =>
      refine Bf_eq (by rw [f_X11_shape]) ?_
      exact Bf_so hb
    | 6 =>
      refine Bf_eq (by rw [f_X11_shape]) ?_
      exact Bf_op (kb_y_X1_size _ _ _ _ hb) (fun _ h1263 => Bf_so h1263)
    | 7 =>
      refine Bf_eq (by rw [f_X11_shape]) ?_
      exact Bf_ite (ih _ _ _ hb) (Bf_op (kb_y_X1_length _ _ _ _ hb) (fun _ h1264 => ih _ _ _ h1264))
    | 8 =>
      refine Bf_eq (by rw [f_X11_shape]) ?_
      exact ih _ _ _ hb
    | 9 =>
      refine Bf_eq (by rw [f_X11_shape]) ?_
      exact Bf_so hb
    | b + 10 =>
      exact Bf_eq (by rw [f_X11_shape]) Bf_no
theorem kb_f_X11_shown {P : Prop} : ∀ (k b : Nat) (L : LV) (σ : CS), BY P σ → Bf P (f_X11_shown k b L σ) := by
  intro k
  induction k with
  | zero => intro b L σ _; exact Bf_no
  | succ k ih =>
    intro b L σ hb
    match b with
    | 0 =>
      refine Bf_eq (by rw [f_X11_shown]) ?_
      exact Bf_ite (ih _ _ _ hb) (Bf_ite (ih _ _ _ hb) (ih _ _ _ hb))
    | 1 =>
      refine Bf_eq (by rw [f_X11_shown]) ?_
      exact Bf_so hb
    | 2 =>
      refine Bf_eq (by rw [f_X11_shown]) ?_
      exact Bf_ite (Bf_so hb) (Bf_no)
    | b + 3 =>
      exact Bf_eq (by rw [f_X11_shown]) Bf_no
theorem kb_f_X3_open__P {P : Prop} : ∀ (k b : Nat) (L : LV) (σ : CS), BY P σ → Bf P (f_X3_open__P k b L σ) := by
  intro k
  induction k with
  | zero => intro b L σ _; exact Bf_no
  | succ k ih =>
    intro b L σ hb
    match b with
    | 0 =>
      refine Bf_eq (by rw [f_X3_open__P]) ?_
      exact Bf_op (kb_y_X9_empty _ _ _ _ (BY_L (BY_uPr hb))) (fun _ h1265 => Bf_ox (kb_f_X3_restart _ _ _ _ h1265) (fun _ h1266 => Bf_so h1266))
    | b + 1 =>
      exact Bf_eq (by rw [f_X3_open__P]) Bf_no
theorem kb_f_X11_start : ∀ (k b : Nat) (L : LV) (σ : CS), BY False σ → Bf False (f_X11_start k b L σ) := by
  intro k
  induction k with
  | zero => intro b L σ _; exact Bf_no
  | succ k ih =>
    intro b L σ hb
    match b with
    | 0 =>
      refine Bf_eq (by rw [f_X11_start]) ?_
      exact Bf_ite (Bf_so hb) (ih _ _ _ hb)
    | 1 =>
      refine Bf_eq (by rw [f_X11_start]) ?_
      exact Bf_ox (kb_f_X3_open__P _ _ _ _ (BY_I (by decide) hb)) (fun _ h1267 => Bf_ox (kb_f_X3_advance _ _ _ _ h1267) (fun _ h1268 => Bf_so h1268))
    | b + 2 =>
      exact Bf_eq (by rw [f_X11_start]) Bf_no
theorem kb_f_X11_state {P : Prop} : ∀ (k b : Nat) (L : LV) (σ : CS), BY P σ → Bf P (f_X11_state k b L σ) := by
  intro k
  induction k with
  | zero => intro b L σ _; exact Bf_no
  | succ k ih =>
    intro b L σ hb
    match b with
    | 0 =>
      refine Bf_eq (by rw [f_X11_state]) ?_
      exact Bf_ite (ih _ _ _ hb) (Bf_ite (ih _ _ _ hb) (ih _ _ _ hb))
    | 1 =>
      refine Bf_eq (by rw [f_X11_state]) ?_
      exact Bf_so hb
    | 2 =>
      refine Bf_eq (by rw [f_X11_state]) ?_
      exact Bf_ox (kb_f_X11_wantRun _ _ _ _ hb) (fun _ h1269 => Bf_ite (ih _ _ _ h1269) (Bf_ite (ih _ _ _ h1269) (Bf_ite (ih _ _ _ h1269) (Bf_ite (ih _ _ _ h1269) (Bf_ite (ih _ _ _ h1269) (Bf_ite (ih _ _ _ h1269) (Bf_ite (ih _ _ _ h1269) (Bf_ite (ih _ _ _ h1269) (Bf_ite (ih _ _ _ h1269) (ih _ _ _ h1269))))))))))
    | 3 =>
      refine Bf_eq (by rw [f_X11_state]) ?_
      exact Bf_so hb
    | 4 =>
      refine Bf_eq (by rw [f_X11_state]) ?_
      exact Bf_so hb
    | 5 =>
      refine Bf_eq (by rw [f_X11_state]) ?_
      exact Bf_so hb
    | 6 =>
      refine Bf_eq (by rw [f_X11_state]) ?_
      exact Bf_so hb
    | 7 =>
      refine Bf_eq (by rw [f_X11_state]) ?_
      exact Bf_so hb
    | 8 =>
      refine Bf_eq (by rw [f_X11_state]) ?_
      exact Bf_so hb
    | 9 =>
      refine Bf_eq (by rw [f_X11_state]) ?_
      exact Bf_so hb
    | 10 =>
      refine Bf_eq (by rw [f_X11_state]) ?_
      exact Bf_so hb
    | 11 =>
      refine Bf_eq (by rw [f_X11_state]) ?_
      exact Bf_so hb
    | 12 =>
      refine Bf_eq (by rw [f_X11_state]) ?_
      exact Bf_so hb
    | b + 13 =>
      exact Bf_eq (by rw [f_X11_state]) Bf_no
theorem kb_f_X11_step : ∀ (k b : Nat) (L : LV) (σ : CS), BY False σ → Bf False (f_X11_step k b L σ) := by
  intro k
  induction k with
  | zero => intro b L σ _; exact Bf_no
  | succ k ih =>
    intro b L σ hb
    match b with
    | 0 =>
      refine Bf_eq (by rw [f_X11_step]) ?_
      exact Bf_ox (kb_f_X11_wantRun _ _ _ _ hb) (fun _ h1270 => Bf_ite (ih _ _ _ h1270) (Bf_ite (ih _ _ _ h1270) (ih _ _ _ h1270)))
    | 1 =>
      refine Bf_eq (by rw [f_X11_step]) ?_
      exact Bf_so hb
    | 2 =>
      refine Bf_eq (by rw [f_X11_step]) ?_
      exact Bf_ox (kb_f_X3_advance _ _ _ _ hb) (fun _ h1271 => Bf_so h1271)
    | b + 3 =>
      exact Bf_eq (by rw [f_X11_step]) Bf_no
theorem kb_f_X11_value {P : Prop} : ∀ (k b : Nat) (L : LV) (σ : CS), BY P σ → Bf P (f_X11_value k b L σ) := by
  intro k
  induction k with
  | zero => intro b L σ _; exact Bf_no
  | succ k ih =>
    intro b L σ hb
    match b with
    | 0 =>
      refine Bf_eq (by rw [f_X11_value]) ?_
      exact Bf_ox (kb_f_X11_wantRun _ _ _ _ hb) (fun _ h1272 => Bf_ox (kb_f_X2_rewind _ _ _ _ h1272) (fun _ h1273 => Bf_ox (kb_f_X2_advance _ _ _ _ h1273) (fun _ h1274 => Bf_ite (Bf_ite (Bf_ite (ih _ _ _ h1274) (ih _ _ _ h1274)) (ih _ _ _ h1274)) (ih _ _ _ h1274))))
    | 1 =>
      refine Bf_eq (by rw [f_X11_value]) ?_
      exact ih _ _ _ hb
    | 2 =>
      refine Bf_eq (by rw [f_X11_value]) ?_
      exact Bf_ite (ih _ _ _ hb) (Bf_op (kb_y_X7_found__P _ _ _ _ hb) (fun _ h1275 => ih _ _ _ h1275))
    | 3 =>
      refine Bf_eq (by rw [f_X11_value]) ?_
      exact ih _ _ _ hb
    | 4 =>
      refine Bf_eq (by rw [f_X11_value]) ?_
      exact Bf_ite (ih _ _ _ hb) (Bf_ite (Bf_ite (ih _ _ _ hb) (ih _ _ _ hb)) (Bf_no))
    | 5 =>
      refine Bf_eq (by rw [f_X11_value]) ?_
      exact Bf_so hb
    | 6 =>
      refine Bf_eq (by rw [f_X11_value]) ?_
      exact Bf_ite (Bf_op (kb_y_X3_global _ _ _ _ (BY_I (by decide) hb)) (fun _ h1276 => Bf_ox (kb_f_X11_showValue _ _ _ _ h1276) (fun _ h1277 => Bf_so h1277))) (Bf_no)
    | b + 7 =>
      exact Bf_eq (by rw [f_X11_value]) Bf_no
theorem kb_f_X5_readExp__P {P : Prop} : ∀ (k b : Nat) (L : LV) (σ : CS), BY P σ → Bf P (f_X5_readExp__P k b L σ) := by
  intro k
  induction k with
  | zero => intro b L σ _; exact Bf_no
  | succ k ih =>
    intro b L σ hb
    match b with
    | 0 =>
      refine Bf_eq (by rw [f_X5_readExp__P]) ?_
      exact Bf_op (kb_y_X7_openUnit__P _ _ _ _ hb) (fun _ h1278 => Bf_ox (kb_f_X5_begin__P _ _ _ _ h1278) (fun _ h1279 => Bf_oh (kb_f_X2_advance _ _ _ _ h1279) (fun _ h1280 => Bf_oh (kb_f_X5_exp _ _ _ _ h1280) (fun _ h1281 => Bf_oh (kb_f_X5_want _ _ _ _ h1281) (fun _ h1282 => Bf_oh (kb_f_X7_emit__P _ _ _ _ h1282) (fun _ h1283 => Bf_so h1283) (fun _ h1284 => Bf_op (kb_y_X5_noteFault _ _ _ _ h1284) (fun _ h1285 => Bf_so (BY_I (nF_P _ (by decide)) (BY_I (nF_P _ (by decide)) h1285))))) (fun _ h1286 => Bf_op (kb_y_X5_noteFault _ _ _ _ h1286) (fun _ h1287 => Bf_so (BY_I (nF_P _ (by decide)) (BY_I (nF_P _ (by decide)) h1287))))) (fun _ h1288 => Bf_op (kb_y_X5_noteFault _ _ _ _ h1288) (fun _ h1289 => Bf_so (BY_I (nF_P _ (by decide)) (BY_I (nF_P _ (by decide)) h1289))))) (fun _ h1290 => Bf_op (kb_y_X5_noteFault _ _ _ _ h1290) (fun _ h1291 => Bf_so (BY_I (nF_P _ (by decide)) (BY_I (nF_P _ (by decide)) h1291))))))
    | b + 1 =>
      exact Bf_eq (by rw [f_X5_readExp__P]) Bf_no
theorem kb_f_X11_view {P : Prop} : ∀ (k b : Nat) (L : LV) (σ : CS), BY P σ → Bf P (f_X11_view k b L σ) := by
  intro k
  induction k with
  | zero => intro b L σ _; exact Bf_no
  | succ k ih =>
    intro b L σ hb
    match b with
    | 0 =>
      refine Bf_eq (by rw [f_X11_view]) ?_
      exact Bf_ite (Bf_so hb) (ih _ _ _ hb)
    | 1 =>
      refine Bf_eq (by rw [f_X11_view]) ?_
      exact Bf_ite (ih _ _ _ hb) (Bf_so hb)
    | 2 =>
      refine Bf_eq (by rw [f_X11_view]) ?_
      exact Bf_ox (kb_f_X5_readExp__P _ _ _ _ hb) (fun _ h1292 => Bf_ite (Bf_so (BY_I (by decide) (BY_I (by decide) h1292))) (ih _ _ _ (BY_I (by decide) (BY_I (by decide) h1292))))
    | 3 =>
      refine Bf_eq (by rw [f_X11_view]) ?_
      exact Bf_ite (Bf_ite (Bf_ite (ih _ _ _ (BY_A (by decide) (BY_A (by decide) (BY_A (by decide) hb)))) (Bf_no)) (Bf_no)) (Bf_no)
    | 4 =>
      refine Bf_eq (by rw [f_X11_view]) ?_
      exact Bf_ite (Bf_ite (ih _ _ _ (BY_I (by decide) (BY_A (by decide) (BY_A (by decide) hb)))) (Bf_no)) (Bf_no)
    | 5 =>
      refine Bf_eq (by rw [f_X11_view]) ?_
      exact Bf_so hb
    | b + 6 =>
      exact Bf_eq (by rw [f_X11_view]) Bf_no
theorem kb_f_X11_work : ∀ (k b : Nat) (L : LV) (σ : CS), BY False σ → Bf False (f_X11_work k b L σ) := by
  intro k
  induction k with
  | zero => intro b L σ _; exact Bf_no
  | succ k ih =>
    intro b L σ hb
    match b with
    | 0 =>
      refine Bf_eq (by rw [f_X11_work]) ?_
      exact Bf_ox (kb_f_X11_wantRun _ _ _ _ hb) (fun _ h1293 => Bf_ox (kb_f_X5_readExp__P _ _ _ _ h1293) (fun _ h1294 => ih _ _ _ (BY_I (by decide) (BY_I (by decide) (BY_I (by decide) h1294)))))
    | 1 =>
      refine Bf_eq (by rw [f_X11_work]) ?_
      exact Bf_ite (Bf_so hb) (ih _ _ _ hb)
    | 2 =>
      refine Bf_eq (by rw [f_X11_work]) ?_
      exact Bf_ox (kb_f_X3_evaluate _ _ _ _ hb) (fun _ h1295 => Bf_op (kb_y_X11_isError _ _ _ _ (BY_I (by decide) (BY_I (nF_P _ (by decide)) h1295))) (fun _ h1296 => ih _ _ _ h1296))
    | 3 =>
      refine Bf_eq (by rw [f_X11_work]) ?_
      exact Bf_ite (ih _ _ _ hb) (ih _ _ _ hb)
    | 4 =>
      refine Bf_eq (by rw [f_X11_work]) ?_
      exact Bf_ox (kb_f_X11_showValue _ _ _ _ hb) (fun _ h1297 => ih _ _ _ h1297)
    | 5 =>
      refine Bf_eq (by rw [f_X11_work]) ?_
      exact Bf_so hb
    | b + 6 =>
      exact Bf_eq (by rw [f_X11_work]) Bf_no
