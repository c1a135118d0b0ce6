/-! The class: statements begun and still to begin: their sum never grows within execute (made by kg.py). -/
def KG (m : Nat) (σ : CS) : Prop := uN (σ.1 1903) + uN (σ.1 1814) ≤ m ∧ m < 4294967296
theorem KG_I {m : Nat} {σ : CS} {j : Nat} {x : Int32} (hj : ¬ 1903 = j ∧ ¬ 1814 = j) (h : KG m σ) : KG m (uI σ j x) := by
  unfold KG
  rw [uI_o hj.1, uI_o hj.2]
  exact h
theorem KG_o {m : Nat} {σ σ' : CS} (h : KG m σ) (e : σ'.1 = σ.1) : KG m σ' := by
  unfold KG
  rw [e]
  exact h
theorem nG_P (b : Bool) {k : Nat} (h : k ≤ 20) : ¬ 1903 = fP b k ∧ ¬ 1814 = fP b k := by
  have e := fP_c b k
  omega
section KC
variable {P : Nat}
/-- whatever comes back: its bytes are bytes -/
def Gy (P : Nat) (x : Option (Int32 × CS)) : Prop := ∀ r, x = some r → KG P r.2
def Gf (P : Nat) (x : Option RS) : Prop := ∀ r, x = some r → KG P r.2.1
theorem Gy_no : Gy P none := fun _ h => by cases h
theorem Gf_no : Gf P none := fun _ h => by cases h
theorem Gy_so {a : Int32} {σ : CS} (h : KG P σ) : Gy P (some (a, σ)) := fun _ e => by cases e; exact h
theorem Gf_so {a : Nat × Int32} {σ : CS} {q : Nat × Nat} (h : KG P σ) : Gf P (some (a, σ, q)) := fun _ e => by cases e; exact h
theorem Gy_eq {a a' : Option (Int32 × CS)} (h1 : a = a') (h : Gy P a') : Gy P a := by rw [h1]; exact h
theorem Gf_eq {a a' : Option RS} (h1 : a = a') (h : Gf P a') : Gf P a := by rw [h1]; exact h
theorem Gy_ite {c : Prop} {_ : Decidable c} {a b : Option (Int32 × CS)} (h1 : Gy P a) (h2 : Gy P b) : Gy P (if c then a else b) := by
  by_cases h : c
  · rw [if_pos h]; exact h1
  · rw [if_neg h]; exact h2
theorem Gf_ite {c : Prop} {_ : Decidable c} {a b : Option RS} (h1 : Gf P a) (h2 : Gf P b) : Gf P (if c then a else b) := by
  by_cases h : c
  · rw [if_pos h]; exact h1
  · rw [if_neg h]; exact h2
theorem Gy_oc {x : Option (Int32 × CS)} {f : Int32 × CS → Option (Int32 × CS)} (h1 : Gy P x) (h2 : ∀ r, KG P r.2 → Gy P (f r)) : Gy P (oc x f) := by
  intro r hr
  cases x with
  | none => cases hr
  | some s => exact h2 s (h1 s rfl) r hr
theorem Gf_op {x : Option (Int32 × CS)} {f : Int32 × CS → Option RS} (h1 : Gy P x) (h2 : ∀ r, KG P r.2 → Gf P (f r)) : Gf P (Jvm.Pilot.CSetHouseLaw_law_r6264_2ea8b6.op x f) := by
  intro r hr
  cases x with
  | none => cases hr
  | some s => exact h2 s (h1 s rfl) r hr
theorem Gf_ad {q : Nat × Nat} {y : Option RS} (h : Gf P y) : Gf P (adR q y) := by
  intro r hr
  cases y with
  | none => cases hr
  | some s =>
    have e : some (s.1, s.2.1, (q.1 + s.2.2.1, q.2 + s.2.2.2)) = some r := hr
    cases e
    exact h s rfl
theorem Gf_ox {x : Option RS} {f : RS → Option RS} (h1 : Gf P x) (h2 : ∀ r, KG P r.2.1 → Gf P (f r)) : Gf P (ox x f) := by
  cases x with
  | none => exact Gf_no
  | some s =>
    have z := h1 s rfl
    show Gf P (if s.1.1 = 0 then adR s.2.2 (f s) else some s)
    refine Gf_ite (Gf_ad (h2 s z)) (fun r e => ?_)
    cases e
    exact z
theorem Gf_oh {x : Option RS} {f g : RS → Option RS} (h1 : Gf P x) (h2 : ∀ r, KG P r.2.1 → Gf P (f r)) (h3 : ∀ r, KG P r.2.1 → Gf P (g r)) : Gf P (oh x f g) := by
  cases x with
  | none => exact Gf_no
  | some s =>
    have z := h1 s rfl
    exact Gf_ite (Gf_ad (h2 s z)) (Gf_ite (Gf_ad (h3 s z)) Gf_no)
theorem Gy_oe {d : Nat} {f : Nat → Option (Int32 × CS)} (h : ∀ e, Gy P (f e)) : Gy P (oe d f) := by
  cases d with
  | zero => exact Gy_no
  | succ e => exact h e
theorem Gf_of {d : Nat} {f : Nat → Option RS} (h : ∀ e, Gf P (f e)) : Gf P (Jvm.Pilot.CSetHouseLaw_law_r6264_2ea8b6.of d f) := by
  cases d with
  | zero => exact Gf_no
  | succ e => exact h e
theorem Gy_oB {x : Option Bool} {f : Bool → Option (Int32 × CS)} (h : ∀ e, Gy P (f e)) : Gy P (oB x f) := by
  cases x with
  | none => exact Gy_no
  | some e => exact h e
theorem Gf_oP {x : Option Bool} {f : Bool → Option RS} (h : ∀ e, Gf P (f e)) : Gf P (oP x f) := by
  cases x with
  | none => exact Gf_no
  | some e => exact h e
theorem Gf_oN {x : Option Bool} {u v : Option RS} (h1 : Gf P u) (h2 : Gf P v) : Gf P (oN x u v) := by
  cases x with
  | none => exact h1
  | some e => exact h2
/-- what ends, ends with bytes -/
theorem Tm_Gy {g : Nat → Option (Int32 × CS)} {Q : Int32 × CS → Prop} (h : Tm g Q) (b : ∀ k, Gy P (g k)) : Tm g (fun r => Q r ∧ KG P r.2) := Tm_pt h (fun k r e => b k r e)
theorem Tm_Gf {g : Nat → Option RS} {Q : RS → Prop} (h : Tm g Q) (b : ∀ k, Gf P (g k)) : Tm g (fun r => Q r ∧ KG P r.2.1) := Tm_pt h (fun k r e => b k r e)
end KC
theorem kg_bs {P : Nat} (k : Nat) (L : LV) (σ : CS) (h : KG P σ) : Gy P (y_X3_beginStatement k 0 L σ) := by
  cases k with
  | zero => exact Gy_no
  | succ k =>
    refine Gy_eq (by rw [y_X3_beginStatement]) ?_
    by_cases z : σ.1 1814 = 0
    · rw [if_pos z]
      exact Gy_so (KG_I (by decide) (KG_I (by decide) h))
    · rw [if_neg z]
      cases k with
      | zero => exact Gy_no
      | succ k =>
        refine Gy_eq (by rw [y_X3_beginStatement]) ?_
        cases k with
        | zero => exact Gy_no
        | succ k =>
          refine Gy_eq (by rw [y_X3_beginStatement]) ?_
          refine Gy_so (KG_I (by decide) (KG_I (by decide) ?_))
          have z' : ¬ uN (σ.1 1814) = 0 := fun e => z (u_eq.2 e)
          have e1 : (uI σ 1814 (σ.1 1814 - 1)).1 1903 = σ.1 1903 := uI_o (by decide)
          unfold KG at h ⊢
          have d1 : uN (σ.1 1814 - 1) = uN (σ.1 1814) - 1 := by
            rw [u_sub (show uN (1 : Int32) ≤ uN (σ.1 1814) by show 1 ≤ uN (σ.1 1814); omega)]
            rfl
          rw [uI_s, e1, uI_o (by decide), uI_s, d1, u_inc (by omega)]
          omega
theorem kg_y_X1_kind {P : Nat} : ∀ (k b : Nat) (L : LV) (σ : CS), KG P σ → Gy P (y_X1_kind k b L σ) := by
  intro k
  induction k with
  | zero => intro b L σ _; exact Gy_no
  | succ k ih =>
    intro b L σ hb
    match b with
    | 0 =>
      refine Gy_eq (by rw [y_X1_kind]) ?_
      exact Gy_ite (ih _ _ _ hb) (ih _ _ _ hb)
    | 1 =>
      refine Gy_eq (by rw [y_X1_kind]) ?_
      exact Gy_ite (ih _ _ _ hb) (Gy_no)
    | 2 =>
      refine Gy_eq (by rw [y_X1_kind]) ?_
      exact Gy_so hb
    | b + 3 =>
      exact Gy_eq (by rw [y_X1_kind]) Gy_no
theorem kg_y_X10_small {P : Nat} : ∀ (k b : Nat) (L : LV) (σ : CS), KG P σ → Gy P (y_X10_small k b L σ) := by
  intro k
  induction k with
  | zero => intro b L σ _; exact Gy_no
  | succ k ih =>
    intro b L σ hb
    match b with
    | 0 =>
      refine Gy_eq (by rw [y_X10_small]) ?_
      exact Gy_so hb
    | b + 1 =>
      exact Gy_eq (by rw [y_X10_small]) Gy_no
theorem kg_y_X1_makeWhole__a7 {P : Nat} : ∀ (k b : Nat) (L : LV) (σ : CS), KG P σ → Gy P (y_X1_makeWhole__a7 k b L σ) := by
  intro k
  induction k with
  | zero => intro b L σ _; exact Gy_no
  | succ k ih =>
    intro b L σ hb
    match b with
    | 0 =>
      refine Gy_eq (by rw [y_X1_makeWhole__a7]) ?_
      exact Gy_ite (ih _ _ _ hb) (Gy_so hb)
    | 1 =>
      refine Gy_eq (by rw [y_X1_makeWhole__a7]) ?_
      exact Gy_ite (ih _ _ _ hb) (Gy_so hb)
    | 2 =>
      refine Gy_eq (by rw [y_X1_makeWhole__a7]) ?_
      exact Gy_ite (ih _ _ _ (KG_I (by decide) hb)) (ih _ _ _ (KG_I (by decide) hb))
    | 3 =>
      refine Gy_eq (by rw [y_X1_makeWhole__a7]) ?_
      exact ih _ _ _ hb
    | 4 =>
      refine Gy_eq (by rw [y_X1_makeWhole__a7]) ?_
      exact Gy_ite (Gy_ite (Gy_so (KG_o (KG_o hb rfl) rfl)) (Gy_no)) (Gy_no)
    | b + 5 =>
      exact Gy_eq (by rw [y_X1_makeWhole__a7]) Gy_no
theorem kg_y_X10_of {P : Nat} : ∀ (k b : Nat) (L : LV) (σ : CS), KG P σ → Gy P (y_X10_of k b L σ) := by
  intro k
  induction k with
  | zero => intro b L σ _; exact Gy_no
  | succ k ih =>
    intro b L σ hb
    match b with
    | 0 =>
      refine Gy_eq (by rw [y_X10_of]) ?_
      exact Gy_ite (ih _ _ _ hb) (Gy_ite (ih _ _ _ hb) (Gy_oc (kg_y_X10_small _ _ _ _ hb) (fun _ h1 => Gy_so h1)))
    | 1 =>
      refine Gy_eq (by rw [y_X10_of]) ?_
      exact Gy_ite (ih _ _ _ hb) (ih _ _ _ hb)
    | 2 =>
      refine Gy_eq (by rw [y_X10_of]) ?_
      exact ih _ _ _ hb
    | 3 =>
      refine Gy_eq (by rw [y_X10_of]) ?_
      exact Gy_ite (Gy_ite (Gy_ite (Gy_ite (ih _ _ _ (KG_o (KG_o hb rfl) rfl)) (ih _ _ _ (KG_o (KG_o hb rfl) rfl))) (Gy_no)) (Gy_no)) (Gy_no)
    | 4 =>
      refine Gy_eq (by rw [y_X10_of]) ?_
      exact ih _ _ _ hb
    | 5 =>
      refine Gy_eq (by rw [y_X10_of]) ?_
      exact Gy_ite (ih _ _ _ hb) (ih _ _ _ hb)
    | 6 =>
      refine Gy_eq (by rw [y_X10_of]) ?_
      exact ih _ _ _ hb
    | 7 =>
      refine Gy_eq (by rw [y_X10_of]) ?_
      exact Gy_oc (kg_y_X1_makeWhole__a7 _ _ _ _ hb) (fun _ h2 => Gy_so h2)
    | b + 8 =>
      exact Gy_eq (by rw [y_X10_of]) Gy_no
theorem kg_y_X10_isBelow {P : Nat} : ∀ (k b : Nat) (L : LV) (σ : CS), KG P σ → Gy P (y_X10_isBelow k b L σ) := by
  intro k
  induction k with
  | zero => intro b L σ _; exact Gy_no
  | succ k ih =>
    intro b L σ hb
    match b with
    | 0 =>
      refine Gy_eq (by rw [y_X10_isBelow]) ?_
      exact Gy_ite (ih _ _ _ hb) (Gy_ite (ih _ _ _ hb) (ih _ _ _ hb))
    | 1 =>
      refine Gy_eq (by rw [y_X10_isBelow]) ?_
      exact Gy_ite (Gy_ite (ih _ _ _ hb) (ih _ _ _ hb)) (Gy_no)
    | 2 =>
      refine Gy_eq (by rw [y_X10_isBelow]) ?_
      exact ih _ _ _ hb
    | 3 =>
      refine Gy_eq (by rw [y_X10_isBelow]) ?_
      exact Gy_ite (Gy_so hb) (Gy_no)
    | 4 =>
      refine Gy_eq (by rw [y_X10_isBelow]) ?_
      exact ih _ _ _ hb
    | b + 5 =>
      exact Gy_eq (by rw [y_X10_isBelow]) Gy_no
theorem kg_y_X10_addLimbs {P : Nat} : ∀ (k b : Nat) (L : LV) (σ : CS), KG P σ → Gy P (y_X10_addLimbs k b L σ) := by
  intro k
  induction k with
  | zero => intro b L σ _; exact Gy_no
  | succ k ih =>
    intro b L σ hb
    match b with
    | 0 =>
      refine Gy_eq (by rw [y_X10_addLimbs]) ?_
      exact ih _ _ _ hb
    | 1 =>
      refine Gy_eq (by rw [y_X10_addLimbs]) ?_
      exact Gy_ite (ih _ _ _ hb) (Gy_ite (ih _ _ _ hb) (Gy_ite (ih _ _ _ hb) (Gy_no)))
    | 2 =>
      refine Gy_eq (by rw [y_X10_addLimbs]) ?_
      exact Gy_ite (Gy_so (KG_o hb rfl)) (Gy_no)
    | 3 =>
      refine Gy_eq (by rw [y_X10_addLimbs]) ?_
      exact ih _ _ _ hb
    | 4 =>
      refine Gy_eq (by rw [y_X10_addLimbs]) ?_
      exact Gy_ite (ih _ _ _ hb) (Gy_ite (ih _ _ _ hb) (Gy_no))
    | 5 =>
      refine Gy_eq (by rw [y_X10_addLimbs]) ?_
      exact ih _ _ _ hb
    | 6 =>
      refine Gy_eq (by rw [y_X10_addLimbs]) ?_
      exact Gy_ite (ih _ _ _ (KG_o hb rfl)) (Gy_no)
    | b + 7 =>
      exact Gy_eq (by rw [y_X10_addLimbs]) Gy_no
theorem kg_y_X10_made {P : Nat} : ∀ (k b : Nat) (L : LV) (σ : CS), KG P σ → Gy P (y_X10_made k b L σ) := by
  intro k
  induction k with
  | zero => intro b L σ _; exact Gy_no
  | succ k ih =>
    intro b L σ hb
    match b with
    | 0 =>
      refine Gy_eq (by rw [y_X10_made]) ?_
      exact ih _ _ _ hb
    | 1 =>
      refine Gy_eq (by rw [y_X10_made]) ?_
      exact Gy_ite (ih _ _ _ hb) (Gy_ite (Gy_ite (ih _ _ _ hb) (ih _ _ _ hb)) (Gy_no))
    | 2 =>
      refine Gy_eq (by rw [y_X10_made]) ?_
      exact Gy_ite (Gy_ite (ih _ _ _ hb) (Gy_ite (ih _ _ _ hb) (Gy_ite (ih _ _ _ hb) (Gy_ite (ih _ _ _ hb) (Gy_ite (ih _ _ _ hb) (ih _ _ _ hb)))))) (Gy_no)
    | 3 =>
      refine Gy_eq (by rw [y_X10_made]) ?_
      exact Gy_ite (ih _ _ _ hb) (ih _ _ _ hb)
    | 4 =>
      refine Gy_eq (by rw [y_X10_made]) ?_
      exact Gy_ite (ih _ _ _ hb) (ih _ _ _ hb)
    | 5 =>
      refine Gy_eq (by rw [y_X10_made]) ?_
      exact Gy_oc (kg_y_X1_makeWhole__a7 _ _ _ _ hb) (fun _ h3 => ih _ _ _ h3)
    | 6 =>
      refine Gy_eq (by rw [y_X10_made]) ?_
      exact Gy_so hb
    | 7 =>
      refine Gy_eq (by rw [y_X10_made]) ?_
      exact Gy_ite (ih _ _ _ hb) (ih _ _ _ hb)
    | 8 =>
      refine Gy_eq (by rw [y_X10_made]) ?_
      exact Gy_so hb
    | 9 =>
      refine Gy_eq (by rw [y_X10_made]) ?_
      exact ih _ _ _ hb
    | 10 =>
      refine Gy_eq (by rw [y_X10_made]) ?_
      exact Gy_oc (kg_y_X10_small _ _ _ _ hb) (fun _ h4 => ih _ _ _ h4)
    | b + 11 =>
      exact Gy_eq (by rw [y_X10_made]) Gy_no
theorem kg_y_J6_compare_7cf53 {P : Nat} : ∀ (k b : Nat) (L : LV) (σ : CS), KG P σ → Gy P (y_J6_compare_7cf53 k b L σ) := by
  intro k
  induction k with
  | zero => intro b L σ _; exact Gy_no
  | succ k ih =>
    intro b L σ hb
    match b with
    | 0 =>
      refine Gy_eq (by rw [y_J6_compare_7cf53]) ?_
      exact Gy_ite (ih _ _ _ hb) (ih _ _ _ hb)
    | 1 =>
      refine Gy_eq (by rw [y_J6_compare_7cf53]) ?_
      exact Gy_ite (ih _ _ _ hb) (ih _ _ _ hb)
    | 2 =>
      refine Gy_eq (by rw [y_J6_compare_7cf53]) ?_
      exact Gy_so hb
    | 3 =>
      refine Gy_eq (by rw [y_J6_compare_7cf53]) ?_
      exact ih _ _ _ hb
    | b + 4 =>
      exact Gy_eq (by rw [y_J6_compare_7cf53]) Gy_no
theorem kg_y_X10_compareLimbs {P : Nat} : ∀ (k b : Nat) (L : LV) (σ : CS), KG P σ → Gy P (y_X10_compareLimbs k b L σ) := by
  intro k
  induction k with
  | zero => intro b L σ _; exact Gy_no
  | succ k ih =>
    intro b L σ hb
    match b with
    | 0 =>
      refine Gy_eq (by rw [y_X10_compareLimbs]) ?_
      exact Gy_oc (kg_y_J6_compare_7cf53 _ _ _ _ hb) (fun _ h5 => ih _ _ _ h5)
    | 1 =>
      refine Gy_eq (by rw [y_X10_compareLimbs]) ?_
      exact Gy_ite (ih _ _ _ hb) (Gy_ite (Gy_ite (Gy_ite (Gy_oc (kg_y_J6_compare_7cf53 _ _ _ _ hb) (fun _ h6 => ih _ _ _ h6)) (Gy_no)) (Gy_no)) (ih _ _ _ hb))
    | 2 =>
      refine Gy_eq (by rw [y_X10_compareLimbs]) ?_
      exact Gy_so hb
    | b + 3 =>
      exact Gy_eq (by rw [y_X10_compareLimbs]) Gy_no
theorem kg_y_X10_load__a5 {P : Nat} : ∀ (k b : Nat) (L : LV) (σ : CS), KG P σ → Gy P (y_X10_load__a5 k b L σ) := by
  intro k
  induction k with
  | zero => intro b L σ _; exact Gy_no
  | succ k ih =>
    intro b L σ hb
    match b with
    | 0 =>
      refine Gy_eq (by rw [y_X10_load__a5]) ?_
      exact Gy_ite (ih _ _ _ hb) (Gy_ite (ih _ _ _ hb) (ih _ _ _ hb))
    | 1 =>
      refine Gy_eq (by rw [y_X10_load__a5]) ?_
      exact Gy_ite (Gy_ite (Gy_so (KG_o hb rfl)) (Gy_no)) (Gy_no)
    | 2 =>
      refine Gy_eq (by rw [y_X10_load__a5]) ?_
      exact ih _ _ _ hb
    | 3 =>
      refine Gy_eq (by rw [y_X10_load__a5]) ?_
      exact Gy_ite (Gy_ite (ih _ _ _ (KG_o hb rfl)) (ih _ _ _ (KG_o hb rfl))) (Gy_no)
    | 4 =>
      refine Gy_eq (by rw [y_X10_load__a5]) ?_
      exact ih _ _ _ hb
    | 5 =>
      refine Gy_eq (by rw [y_X10_load__a5]) ?_
      exact Gy_so hb
    | b + 6 =>
      exact Gy_eq (by rw [y_X10_load__a5]) Gy_no
theorem kg_y_X10_load__a6 {P : Nat} : ∀ (k b : Nat) (L : LV) (σ : CS), KG P σ → Gy P (y_X10_load__a6 k b L σ) := by
  intro k
  induction k with
  | zero => intro b L σ _; exact Gy_no
  | succ k ih =>
    intro b L σ hb
    match b with
    | 0 =>
      refine Gy_eq (by rw [y_X10_load__a6]) ?_
      exact Gy_ite (ih _ _ _ hb) (Gy_ite (ih _ _ _ hb) (ih _ _ _ hb))
    | 1 =>
      refine Gy_eq (by rw [y_X10_load__a6]) ?_
      exact Gy_ite (Gy_ite (Gy_so (KG_o hb rfl)) (Gy_no)) (Gy_no)
    | 2 =>
      refine Gy_eq (by rw [y_X10_load__a6]) ?_
      exact ih _ _ _ hb
    | 3 =>
      refine Gy_eq (by rw [y_X10_load__a6]) ?_
      exact Gy_ite (Gy_ite (ih _ _ _ (KG_o hb rfl)) (ih _ _ _ (KG_o hb rfl))) (Gy_no)
    | 4 =>
      refine Gy_eq (by rw [y_X10_load__a6]) ?_
      exact ih _ _ _ hb
    | 5 =>
      refine Gy_eq (by rw [y_X10_load__a6]) ?_
      exact Gy_so hb
    | b + 6 =>
      exact Gy_eq (by rw [y_X10_load__a6]) Gy_no
theorem kg_y_X10_takeLimbs__a5__a6 {P : Nat} : ∀ (k b : Nat) (L : LV) (σ : CS), KG P σ → Gy P (y_X10_takeLimbs__a5__a6 k b L σ) := by
  intro k
  induction k with
  | zero => intro b L σ _; exact Gy_no
  | succ k ih =>
    intro b L σ hb
    match b with
    | 0 =>
      refine Gy_eq (by rw [y_X10_takeLimbs__a5__a6]) ?_
      exact ih _ _ _ hb
    | 1 =>
      refine Gy_eq (by rw [y_X10_takeLimbs__a5__a6]) ?_
      exact Gy_ite (ih _ _ _ hb) (Gy_ite (Gy_ite (ih _ _ _ hb) (Gy_ite (ih _ _ _ hb) (Gy_no))) (Gy_no))
    | 2 =>
      refine Gy_eq (by rw [y_X10_takeLimbs__a5__a6]) ?_
      exact Gy_so hb
    | 3 =>
      refine Gy_eq (by rw [y_X10_takeLimbs__a5__a6]) ?_
      exact ih _ _ _ hb
    | 4 =>
      refine Gy_eq (by rw [y_X10_takeLimbs__a5__a6]) ?_
      exact Gy_ite (ih _ _ _ (KG_o hb rfl)) (Gy_no)
    | b + 5 =>
      exact Gy_eq (by rw [y_X10_takeLimbs__a5__a6]) Gy_no
theorem kg_y_X10_takeLimbs__a6__a5 {P : Nat} : ∀ (k b : Nat) (L : LV) (σ : CS), KG P σ → Gy P (y_X10_takeLimbs__a6__a5 k b L σ) := by
  intro k
  induction k with
  | zero => intro b L σ _; exact Gy_no
  | succ k ih =>
    intro b L σ hb
    match b with
    | 0 =>
      refine Gy_eq (by rw [y_X10_takeLimbs__a6__a5]) ?_
      exact ih _ _ _ hb
    | 1 =>
      refine Gy_eq (by rw [y_X10_takeLimbs__a6__a5]) ?_
      exact Gy_ite (ih _ _ _ hb) (Gy_ite (Gy_ite (ih _ _ _ hb) (Gy_ite (ih _ _ _ hb) (Gy_no))) (Gy_no))
    | 2 =>
      refine Gy_eq (by rw [y_X10_takeLimbs__a6__a5]) ?_
      exact Gy_so hb
    | 3 =>
      refine Gy_eq (by rw [y_X10_takeLimbs__a6__a5]) ?_
      exact ih _ _ _ hb
    | 4 =>
      refine Gy_eq (by rw [y_X10_takeLimbs__a6__a5]) ?_
      exact Gy_ite (ih _ _ _ (KG_o hb rfl)) (Gy_no)
    | b + 5 =>
      exact Gy_eq (by rw [y_X10_takeLimbs__a6__a5]) Gy_no
theorem kg_y_X10_added {P : Nat} : ∀ (k b : Nat) (L : LV) (σ : CS), KG P σ → Gy P (y_X10_added k b L σ) := by
  intro k
  induction k with
  | zero => intro b L σ _; exact Gy_no
  | succ k ih =>
    intro b L σ hb
    match b with
    | 0 =>
      refine Gy_eq (by rw [y_X10_added]) ?_
      exact Gy_ite (ih _ _ _ hb) (Gy_ite (ih _ _ _ hb) (Gy_ite (ih _ _ _ hb) (ih _ _ _ hb)))
    | 1 =>
      refine Gy_eq (by rw [y_X10_added]) ?_
      exact Gy_oc (kg_y_X10_load__a5 _ _ _ _ hb) (fun _ h7 => Gy_oc (kg_y_X10_load__a6 _ _ _ _ h7) (fun _ h8 => Gy_oc (kg_y_X10_isBelow _ _ _ _ h8) (fun _ h9 => Gy_oc (kg_y_X10_isBelow _ _ _ _ h9) (fun _ h10 => Gy_ite (ih _ _ _ h10) (ih _ _ _ h10)))))
    | 2 =>
      refine Gy_eq (by rw [y_X10_added]) ?_
      exact ih _ _ _ hb
    | 3 =>
      refine Gy_eq (by rw [y_X10_added]) ?_
      exact Gy_oc (kg_y_X10_of _ _ _ _ hb) (fun _ h11 => Gy_so h11)
    | 4 =>
      refine Gy_eq (by rw [y_X10_added]) ?_
      exact ih _ _ _ hb
    | 5 =>
      refine Gy_eq (by rw [y_X10_added]) ?_
      exact Gy_ite (Gy_oc (kg_y_X10_addLimbs _ _ _ _ hb) (fun _ h12 => Gy_oc (kg_y_X10_made _ _ _ _ h12) (fun _ h13 => Gy_so h13))) (ih _ _ _ hb)
    | 6 =>
      refine Gy_eq (by rw [y_X10_added]) ?_
      exact Gy_oc (kg_y_X10_compareLimbs _ _ _ _ hb) (fun _ h14 => Gy_ite (Gy_so h14) (ih _ _ _ h14))
    | 7 =>
      refine Gy_eq (by rw [y_X10_added]) ?_
      exact Gy_ite (ih _ _ _ hb) (Gy_oc (kg_y_X10_takeLimbs__a5__a6 _ _ _ _ hb) (fun _ h15 => Gy_oc (kg_y_X10_made _ _ _ _ h15) (fun _ h16 => Gy_so h16)))
    | 8 =>
      refine Gy_eq (by rw [y_X10_added]) ?_
      exact Gy_oc (kg_y_X10_takeLimbs__a6__a5 _ _ _ _ hb) (fun _ h17 => Gy_oc (kg_y_X10_made _ _ _ _ h17) (fun _ h18 => Gy_so h18))
    | b + 9 =>
      exact Gy_eq (by rw [y_X10_added]) Gy_no
theorem kg_y_X1_length {P : Nat} : ∀ (k b : Nat) (L : LV) (σ : CS), KG P σ → Gy P (y_X1_length k b L σ) := by
  intro k
  induction k with
  | zero => intro b L σ _; exact Gy_no
  | succ k ih =>
    intro b L σ hb
    match b with
    | 0 =>
      refine Gy_eq (by rw [y_X1_length]) ?_
      exact Gy_ite (ih _ _ _ hb) (Gy_ite (ih _ _ _ hb) (ih _ _ _ hb))
    | 1 =>
      refine Gy_eq (by rw [y_X1_length]) ?_
      exact Gy_ite (Gy_so hb) (Gy_no)
    | 2 =>
      refine Gy_eq (by rw [y_X1_length]) ?_
      exact ih _ _ _ hb
    | 3 =>
      refine Gy_eq (by rw [y_X1_length]) ?_
      exact Gy_so hb
    | b + 4 =>
      exact Gy_eq (by rw [y_X1_length]) Gy_no
theorem kg_y_X1_header {P : Nat} : ∀ (k b : Nat) (L : LV) (σ : CS), KG P σ → Gy P (y_X1_header k b L σ) := by
  intro k
  induction k with
  | zero => intro b L σ _; exact Gy_no
  | succ k ih =>
    intro b L σ hb
    match b with
    | 0 =>
      refine Gy_eq (by rw [y_X1_header]) ?_
      exact Gy_so hb
    | b + 1 =>
      exact Gy_eq (by rw [y_X1_header]) Gy_no
theorem kg_y_X1_copyBytes__a15 {P : Nat} : ∀ (k b : Nat) (L : LV) (σ : CS), KG P σ → Gy P (y_X1_copyBytes__a15 k b L σ) := by
  intro k
  induction k with
  | zero => intro b L σ _; exact Gy_no
  | succ k ih =>
    intro b L σ hb
    match b with
    | 0 =>
      refine Gy_eq (by rw [y_X1_copyBytes__a15]) ?_
      exact ih _ _ _ hb
    | 1 =>
      refine Gy_eq (by rw [y_X1_copyBytes__a15]) ?_
      exact Gy_ite (ih _ _ _ hb) (Gy_ite (ih _ _ _ hb) (Gy_ite (ih _ _ _ hb) (ih _ _ _ hb)))
    | 2 =>
      refine Gy_eq (by rw [y_X1_copyBytes__a15]) ?_
      exact Gy_so hb
    | 3 =>
      refine Gy_eq (by rw [y_X1_copyBytes__a15]) ?_
      exact Gy_ite (ih _ _ _ hb) (Gy_no)
    | 4 =>
      refine Gy_eq (by rw [y_X1_copyBytes__a15]) ?_
      exact Gy_ite (ih _ _ _ (KG_o hb rfl)) (Gy_no)
    | b + 5 =>
      exact Gy_eq (by rw [y_X1_copyBytes__a15]) Gy_no
theorem kg_y_X1_makeString__a15 {P : Nat} : ∀ (k b : Nat) (L : LV) (σ : CS), KG P σ → Gy P (y_X1_makeString__a15 k b L σ) := by
  intro k
  induction k with
  | zero => intro b L σ _; exact Gy_no
  | succ k ih =>
    intro b L σ hb
    match b with
    | 0 =>
      refine Gy_eq (by rw [y_X1_makeString__a15]) ?_
      exact Gy_ite (ih _ _ _ hb) (Gy_ite (ih _ _ _ hb) (ih _ _ _ hb))
    | 1 =>
      refine Gy_eq (by rw [y_X1_makeString__a15]) ?_
      exact Gy_ite (ih _ _ _ hb) (Gy_so hb)
    | 2 =>
      refine Gy_eq (by rw [y_X1_makeString__a15]) ?_
      exact Gy_ite (ih _ _ _ hb) (Gy_no)
    | 3 =>
      refine Gy_eq (by rw [y_X1_makeString__a15]) ?_
      exact Gy_so hb
    | 4 =>
      refine Gy_eq (by rw [y_X1_makeString__a15]) ?_
      exact Gy_ite (ih _ _ _ hb) (Gy_so hb)
    | 5 =>
      refine Gy_eq (by rw [y_X1_makeString__a15]) ?_
      exact Gy_oc (kg_y_X1_header _ _ _ _ (KG_I (by decide) hb)) (fun _ h19 => Gy_ite (ih _ _ _ (KG_o h19 rfl)) (Gy_no))
    | 6 =>
      refine Gy_eq (by rw [y_X1_makeString__a15]) ?_
      exact ih _ _ _ hb
    | 7 =>
      refine Gy_eq (by rw [y_X1_makeString__a15]) ?_
      exact Gy_ite (ih _ _ _ hb) (Gy_ite (Gy_ite (ih _ _ _ hb) (Gy_ite (ih _ _ _ hb) (ih _ _ _ hb))) (Gy_no))
    | 8 =>
      refine Gy_eq (by rw [y_X1_makeString__a15]) ?_
      exact Gy_so hb
    | 9 =>
      refine Gy_eq (by rw [y_X1_makeString__a15]) ?_
      exact Gy_ite (ih _ _ _ (KG_o hb rfl)) (Gy_no)
    | 10 =>
      refine Gy_eq (by rw [y_X1_makeString__a15]) ?_
      exact ih _ _ _ hb
    | b + 11 =>
      exact Gy_eq (by rw [y_X1_makeString__a15]) Gy_no
theorem kg_y_X0_joined {P : Nat} : ∀ (k b : Nat) (L : LV) (σ : CS), KG P σ → Gy P (y_X0_joined k b L σ) := by
  intro k
  induction k with
  | zero => intro b L σ _; exact Gy_no
  | succ k ih =>
    intro b L σ hb
    match b with
    | 0 =>
      refine Gy_eq (by rw [y_X0_joined]) ?_
      exact Gy_oc (kg_y_X1_length _ _ _ _ hb) (fun _ h20 => Gy_oc (kg_y_X1_copyBytes__a15 _ _ _ _ h20) (fun _ h21 => Gy_oc (kg_y_X1_length _ _ _ _ h21) (fun _ h22 => Gy_oc (kg_y_X1_copyBytes__a15 _ _ _ _ h22) (fun _ h23 => Gy_oc (kg_y_X1_makeString__a15 _ _ _ _ h23) (fun _ h24 => Gy_so h24)))))
    | b + 1 =>
      exact Gy_eq (by rw [y_X0_joined]) Gy_no
theorem kg_y_X0_load {P : Nat} : ∀ (k b : Nat) (L : LV) (σ : CS), KG P σ → Gy P (y_X0_load k b L σ) := by
  intro k
  induction k with
  | zero => intro b L σ _; exact Gy_no
  | succ k ih =>
    intro b L σ hb
    match b with
    | 0 =>
      refine Gy_eq (by rw [y_X0_load]) ?_
      exact Gy_ite (ih _ _ _ hb) (Gy_ite (ih _ _ _ hb) (ih _ _ _ hb))
    | 1 =>
      refine Gy_eq (by rw [y_X0_load]) ?_
      exact Gy_so hb
    | 2 =>
      refine Gy_eq (by rw [y_X0_load]) ?_
      exact Gy_ite (Gy_so (KG_o hb rfl)) (Gy_no)
    | b + 3 =>
      exact Gy_eq (by rw [y_X0_load]) Gy_no
theorem kg_y_X1_member {P : Nat} : ∀ (k b : Nat) (L : LV) (σ : CS), KG P σ → Gy P (y_X1_member k b L σ) := by
  intro k
  induction k with
  | zero => intro b L σ _; exact Gy_no
  | succ k ih =>
    intro b L σ hb
    match b with
    | 0 =>
      refine Gy_eq (by rw [y_X1_member]) ?_
      exact Gy_ite (ih _ _ _ hb) (Gy_ite (ih _ _ _ hb) (Gy_ite (Gy_ite (ih _ _ _ hb) (Gy_ite (ih _ _ _ hb) (Gy_no))) (Gy_no)))
    | 1 =>
      refine Gy_eq (by rw [y_X1_member]) ?_
      exact ih _ _ _ hb
    | 2 =>
      refine Gy_eq (by rw [y_X1_member]) ?_
      exact Gy_so hb
    | b + 3 =>
      exact Gy_eq (by rw [y_X1_member]) Gy_no
theorem kg_y_X1_compareWholes {P : Nat} : ∀ (k b : Nat) (L : LV) (σ : CS), KG P σ → Gy P (y_X1_compareWholes k b L σ) := by
  intro k
  induction k with
  | zero => intro b L σ _; exact Gy_no
  | succ k ih =>
    intro b L σ hb
    match b with
    | 0 =>
      refine Gy_eq (by rw [y_X1_compareWholes]) ?_
      exact Gy_ite (ih _ _ _ hb) (Gy_ite (Gy_ite (ih _ _ _ hb) (ih _ _ _ hb)) (Gy_no))
    | 1 =>
      refine Gy_eq (by rw [y_X1_compareWholes]) ?_
      exact ih _ _ _ hb
    | 2 =>
      refine Gy_eq (by rw [y_X1_compareWholes]) ?_
      exact Gy_ite (ih _ _ _ hb) (Gy_ite (Gy_ite (ih _ _ _ hb) (ih _ _ _ hb)) (Gy_no))
    | 3 =>
      refine Gy_eq (by rw [y_X1_compareWholes]) ?_
      exact ih _ _ _ hb
    | 4 =>
      refine Gy_eq (by rw [y_X1_compareWholes]) ?_
      exact Gy_ite (ih _ _ _ hb) (Gy_ite (ih _ _ _ hb) (ih _ _ _ hb))
    | 5 =>
      refine Gy_eq (by rw [y_X1_compareWholes]) ?_
      exact Gy_ite (ih _ _ _ hb) (Gy_ite (ih _ _ _ hb) (ih _ _ _ hb))
    | 6 =>
      refine Gy_eq (by rw [y_X1_compareWholes]) ?_
      exact ih _ _ _ hb
    | 7 =>
      refine Gy_eq (by rw [y_X1_compareWholes]) ?_
      exact Gy_so hb
    | 8 =>
      refine Gy_eq (by rw [y_X1_compareWholes]) ?_
      exact Gy_ite (ih _ _ _ hb) (ih _ _ _ hb)
    | 9 =>
      refine Gy_eq (by rw [y_X1_compareWholes]) ?_
      exact Gy_ite (Gy_ite (Gy_ite (ih _ _ _ hb) (ih _ _ _ hb)) (Gy_no)) (Gy_no)
    | 10 =>
      refine Gy_eq (by rw [y_X1_compareWholes]) ?_
      exact ih _ _ _ hb
    | 11 =>
      refine Gy_eq (by rw [y_X1_compareWholes]) ?_
      exact Gy_so hb
    | 12 =>
      refine Gy_eq (by rw [y_X1_compareWholes]) ?_
      exact Gy_ite (ih _ _ _ hb) (ih _ _ _ hb)
    | 13 =>
      refine Gy_eq (by rw [y_X1_compareWholes]) ?_
      exact ih _ _ _ hb
    | 14 =>
      refine Gy_eq (by rw [y_X1_compareWholes]) ?_
      exact ih _ _ _ hb
    | 15 =>
      refine Gy_eq (by rw [y_X1_compareWholes]) ?_
      exact Gy_ite (ih _ _ _ hb) (Gy_ite (Gy_ite (Gy_ite (Gy_ite (ih _ _ _ hb) (ih _ _ _ hb)) (Gy_no)) (Gy_no)) (ih _ _ _ hb))
    | 16 =>
      refine Gy_eq (by rw [y_X1_compareWholes]) ?_
      exact Gy_ite (ih _ _ _ hb) (ih _ _ _ hb)
    | 17 =>
      refine Gy_eq (by rw [y_X1_compareWholes]) ?_
      exact Gy_ite (ih _ _ _ hb) (ih _ _ _ hb)
    | 18 =>
      refine Gy_eq (by rw [y_X1_compareWholes]) ?_
      exact ih _ _ _ hb
    | 19 =>
      refine Gy_eq (by rw [y_X1_compareWholes]) ?_
      exact ih _ _ _ hb
    | 20 =>
      refine Gy_eq (by rw [y_X1_compareWholes]) ?_
      exact Gy_so hb
    | 21 =>
      refine Gy_eq (by rw [y_X1_compareWholes]) ?_
      exact ih _ _ _ hb
    | b + 22 =>
      exact Gy_eq (by rw [y_X1_compareWholes]) Gy_no
theorem kg_y_X1_compareStrings {P : Nat} : ∀ (k b : Nat) (L : LV) (σ : CS), KG P σ → Gy P (y_X1_compareStrings k b L σ) := by
  intro k
  induction k with
  | zero => intro b L σ _; exact Gy_no
  | succ k ih =>
    intro b L σ hb
    match b with
    | 0 =>
      refine Gy_eq (by rw [y_X1_compareStrings]) ?_
      exact Gy_ite (ih _ _ _ hb) (ih _ _ _ hb)
    | 1 =>
      refine Gy_eq (by rw [y_X1_compareStrings]) ?_
      exact Gy_ite (ih _ _ _ hb) (Gy_no)
    | 2 =>
      refine Gy_eq (by rw [y_X1_compareStrings]) ?_
      exact Gy_ite (ih _ _ _ hb) (ih _ _ _ hb)
    | 3 =>
      refine Gy_eq (by rw [y_X1_compareStrings]) ?_
      exact Gy_ite (ih _ _ _ hb) (Gy_no)
    | 4 =>
      refine Gy_eq (by rw [y_X1_compareStrings]) ?_
      exact ih _ _ _ hb
    | 5 =>
      refine Gy_eq (by rw [y_X1_compareStrings]) ?_
      exact Gy_ite (ih _ _ _ hb) (Gy_ite (ih _ _ _ hb) (Gy_ite (ih _ _ _ hb) (ih _ _ _ hb)))
    | 6 =>
      refine Gy_eq (by rw [y_X1_compareStrings]) ?_
      exact Gy_ite (ih _ _ _ hb) (ih _ _ _ hb)
    | 7 =>
      refine Gy_eq (by rw [y_X1_compareStrings]) ?_
      exact Gy_ite (ih _ _ _ hb) (Gy_no)
    | 8 =>
      refine Gy_eq (by rw [y_X1_compareStrings]) ?_
      exact Gy_ite (ih _ _ _ hb) (ih _ _ _ hb)
    | 9 =>
      refine Gy_eq (by rw [y_X1_compareStrings]) ?_
      exact Gy_ite (ih _ _ _ hb) (ih _ _ _ hb)
    | 10 =>
      refine Gy_eq (by rw [y_X1_compareStrings]) ?_
      exact Gy_so hb
    | 11 =>
      refine Gy_eq (by rw [y_X1_compareStrings]) ?_
      exact Gy_ite (ih _ _ _ hb) (Gy_no)
    | 12 =>
      refine Gy_eq (by rw [y_X1_compareStrings]) ?_
      exact Gy_ite (ih _ _ _ hb) (Gy_ite (ih _ _ _ hb) (ih _ _ _ hb))
    | 13 =>
      refine Gy_eq (by rw [y_X1_compareStrings]) ?_
      exact ih _ _ _ hb
    | 14 =>
      refine Gy_eq (by rw [y_X1_compareStrings]) ?_
      exact ih _ _ _ hb
    | 15 =>
      refine Gy_eq (by rw [y_X1_compareStrings]) ?_
      exact ih _ _ _ hb
    | 16 =>
      refine Gy_eq (by rw [y_X1_compareStrings]) ?_
      exact Gy_so hb
    | b + 17 =>
      exact Gy_eq (by rw [y_X1_compareStrings]) Gy_no
theorem kg_t_X1_compare {P : Nat} {X : Nat → Nat → Nat → LV → CS → Option (Int32 × CS)} (hX : ∀ e m b L (σ : CS), KG P σ → Gy P (X e m b L σ)) (K d b : Nat) (L : LV) (σ : CS) (hb : KG P σ) : Gy P (t_X1_compare X K d b L σ) := by
  match b with
  | 0 => exact Gy_ite (Gy_so hb) (hX _ _ _ _ _ hb)
  | 1 => exact Gy_ite (hX _ _ _ _ _ hb) (hX _ _ _ _ _ hb)
  | 2 => exact Gy_ite (hX _ _ _ _ _ hb) (Gy_no)
  | 3 => exact Gy_ite (hX _ _ _ _ _ hb) (hX _ _ _ _ _ hb)
  | 4 => exact Gy_ite (hX _ _ _ _ _ hb) (Gy_no)
  | 5 => exact Gy_ite (hX _ _ _ _ _ hb) (Gy_ite (hX _ _ _ _ _ hb) (hX _ _ _ _ _ hb))
  | 6 => exact Gy_ite (hX _ _ _ _ _ hb) (Gy_ite (hX _ _ _ _ _ hb) (Gy_ite (hX _ _ _ _ _ hb) (hX _ _ _ _ _ hb)))
  | 7 => exact hX _ _ _ _ _ hb
  | 8 => exact Gy_so hb
  | 9 => exact Gy_ite (hX _ _ _ _ _ hb) (Gy_ite (Gy_oc (kg_y_X1_compareWholes _ _ _ _ hb) (fun _ h25 => hX _ _ _ _ _ h25)) (hX _ _ _ _ _ hb))
  | 10 => exact hX _ _ _ _ _ hb
  | 11 => exact Gy_so hb
  | 12 => exact Gy_ite (Gy_ite (hX _ _ _ _ _ hb) (Gy_no)) (Gy_no)
  | 13 => exact Gy_oc (kg_y_X1_compareStrings _ _ _ _ hb) (fun _ h26 => hX _ _ _ _ _ h26)
  | 14 => exact Gy_so hb
  | 15 => exact Gy_ite (hX _ _ _ _ _ hb) (Gy_ite (hX _ _ _ _ _ hb) (Gy_ite (Gy_ite (Gy_ite (hX _ _ _ _ _ hb) (hX _ _ _ _ _ hb)) (Gy_no)) (Gy_no)))
  | 16 => exact Gy_ite (hX _ _ _ _ _ hb) (hX _ _ _ _ _ hb)
  | 17 => exact Gy_ite (Gy_ite (Gy_oe (fun _ => Gy_oc (hX _ _ _ _ _ hb) (fun _ h27 => hX _ _ _ _ _ h27))) (Gy_no)) (Gy_no)
  | 18 => exact Gy_ite (hX _ _ _ _ _ hb) (Gy_so hb)
  | 19 => exact Gy_ite (hX _ _ _ _ _ hb) (hX _ _ _ _ _ hb)
  | 20 => exact Gy_so hb
  | 21 => exact hX _ _ _ _ _ hb
  | 22 => exact hX _ _ _ _ _ hb
  | b + 23 => exact Gy_no
theorem kg_y_H1 {P : Nat} : ∀ (k d m b : Nat) (L : LV) (σ : CS), KG P σ → Gy P (y_H1 k d m b L σ) := by
  intro k
  induction k with
  | zero => intro d m b L σ _; exact Gy_no
  | succ k ih =>
    intro d m b L σ hb
    match m with
    | 0 => exact kg_t_X1_compare ih k d b L σ hb
    | m + 1 => exact Gy_no
theorem kg_y_X1_compare {P : Nat} (k b : Nat) (L : LV) (σ : CS) (hb : KG P σ) : Gy P (y_X1_compare k b L σ) := kg_y_H1 k 60 0 b L σ hb
theorem kg_y_X0_placeOf {P : Nat} : ∀ (k b : Nat) (L : LV) (σ : CS), KG P σ → Gy P (y_X0_placeOf k b L σ) := by
  intro k
  induction k with
  | zero => intro b L σ _; exact Gy_no
  | succ k ih =>
    intro b L σ hb
    match b with
    | 0 =>
      refine Gy_eq (by rw [y_X0_placeOf]) ?_
      exact Gy_oc (kg_y_X1_length _ _ _ _ hb) (fun _ h28 => ih _ _ _ h28)
    | 1 =>
      refine Gy_eq (by rw [y_X0_placeOf]) ?_
      exact Gy_ite (ih _ _ _ hb) (Gy_ite (ih _ _ _ hb) (Gy_oc (kg_y_X1_member _ _ _ _ hb) (fun _ h29 => Gy_oc (kg_y_X1_compare _ _ _ _ h29) (fun _ h30 => Gy_ite (ih _ _ _ h30) (ih _ _ _ h30)))))
    | 2 =>
      refine Gy_eq (by rw [y_X0_placeOf]) ?_
      exact Gy_so hb
    | 3 =>
      refine Gy_eq (by rw [y_X0_placeOf]) ?_
      exact ih _ _ _ hb
    | 4 =>
      refine Gy_eq (by rw [y_X0_placeOf]) ?_
      exact ih _ _ _ hb
    | b + 5 =>
      exact Gy_eq (by rw [y_X0_placeOf]) Gy_no
theorem kg_y_X1_same {P : Nat} : ∀ (k b : Nat) (L : LV) (σ : CS), KG P σ → Gy P (y_X1_same k b L σ) := by
  intro k
  induction k with
  | zero => intro b L σ _; exact Gy_no
  | succ k ih =>
    intro b L σ hb
    match b with
    | 0 =>
      refine Gy_eq (by rw [y_X1_same]) ?_
      exact Gy_ite (ih _ _ _ hb) (Gy_ite (ih _ _ _ hb) (Gy_ite (ih _ _ _ hb) (Gy_ite (Gy_ite (Gy_ite (Gy_oc (kg_y_X1_compare _ _ _ _ hb) (fun _ h31 => Gy_ite (ih _ _ _ h31) (ih _ _ _ h31))) (ih _ _ _ hb)) (Gy_no)) (Gy_no))))
    | 1 =>
      refine Gy_eq (by rw [y_X1_same]) ?_
      exact ih _ _ _ hb
    | 2 =>
      refine Gy_eq (by rw [y_X1_same]) ?_
      exact ih _ _ _ hb
    | 3 =>
      refine Gy_eq (by rw [y_X1_same]) ?_
      exact Gy_ite (Gy_so hb) (Gy_no)
    | b + 4 =>
      exact Gy_eq (by rw [y_X1_same]) Gy_no
theorem kg_y_X1_makeRow__a16 {P : Nat} : ∀ (k b : Nat) (L : LV) (σ : CS), KG P σ → Gy P (y_X1_makeRow__a16 k b L σ) := by
  intro k
  induction k with
  | zero => intro b L σ _; exact Gy_no
  | succ k ih =>
    intro b L σ hb
    match b with
    | 0 =>
      refine Gy_eq (by rw [y_X1_makeRow__a16]) ?_
      exact Gy_ite (ih _ _ _ hb) (Gy_ite (ih _ _ _ hb) (ih _ _ _ hb))
    | 1 =>
      refine Gy_eq (by rw [y_X1_makeRow__a16]) ?_
      exact Gy_ite (ih _ _ _ hb) (ih _ _ _ hb)
    | 2 =>
      refine Gy_eq (by rw [y_X1_makeRow__a16]) ?_
      exact ih _ _ _ hb
    | 3 =>
      refine Gy_eq (by rw [y_X1_makeRow__a16]) ?_
      exact Gy_so hb
    | 4 =>
      refine Gy_eq (by rw [y_X1_makeRow__a16]) ?_
      exact ih _ _ _ hb
    | 5 =>
      refine Gy_eq (by rw [y_X1_makeRow__a16]) ?_
      exact ih _ _ _ hb
    | 6 =>
      refine Gy_eq (by rw [y_X1_makeRow__a16]) ?_
      exact Gy_ite (ih _ _ _ hb) (Gy_ite (ih _ _ _ hb) (Gy_ite (Gy_ite (ih _ _ _ hb) (Gy_ite (Gy_ite (ih _ _ _ hb) (ih _ _ _ hb)) (Gy_no))) (Gy_no)))
    | 7 =>
      refine Gy_eq (by rw [y_X1_makeRow__a16]) ?_
      exact Gy_ite (ih _ _ _ hb) (Gy_ite (ih _ _ _ hb) (ih _ _ _ hb))
    | 8 =>
      refine Gy_eq (by rw [y_X1_makeRow__a16]) ?_
      exact Gy_ite (ih _ _ _ hb) (Gy_ite (Gy_ite (ih _ _ _ hb) (ih _ _ _ hb)) (ih _ _ _ hb))
    | 9 =>
      refine Gy_eq (by rw [y_X1_makeRow__a16]) ?_
      exact ih _ _ _ hb
    | 10 =>
      refine Gy_eq (by rw [y_X1_makeRow__a16]) ?_
      exact Gy_ite (ih _ _ _ hb) (Gy_ite (ih _ _ _ hb) (ih _ _ _ hb))
    | 11 =>
      refine Gy_eq (by rw [y_X1_makeRow__a16]) ?_
      exact Gy_so hb
    | 12 =>
      refine Gy_eq (by rw [y_X1_makeRow__a16]) ?_
      exact Gy_ite (ih _ _ _ hb) (Gy_so hb)
    | 13 =>
      refine Gy_eq (by rw [y_X1_makeRow__a16]) ?_
      exact ih _ _ _ hb
    | 14 =>
      refine Gy_eq (by rw [y_X1_makeRow__a16]) ?_
      exact ih _ _ _ hb
    | 15 =>
      refine Gy_eq (by rw [y_X1_makeRow__a16]) ?_
      exact ih _ _ _ hb
    | 16 =>
      refine Gy_eq (by rw [y_X1_makeRow__a16]) ?_
      exact ih _ _ _ hb
    | 17 =>
      refine Gy_eq (by rw [y_X1_makeRow__a16]) ?_
      exact Gy_ite (ih _ _ _ (KG_I (by decide) hb)) (ih _ _ _ (KG_I (by decide) hb))
    | 18 =>
      refine Gy_eq (by rw [y_X1_makeRow__a16]) ?_
      exact ih _ _ _ hb
    | 19 =>
      refine Gy_eq (by rw [y_X1_makeRow__a16]) ?_
      exact ih _ _ _ hb
    | 20 =>
      refine Gy_eq (by rw [y_X1_makeRow__a16]) ?_
      exact ih _ _ _ hb
    | 21 =>
      refine Gy_eq (by rw [y_X1_makeRow__a16]) ?_
      exact Gy_ite (Gy_ite (Gy_so (KG_o (KG_o hb rfl) rfl)) (Gy_no)) (Gy_no)
    | b + 22 =>
      exact Gy_eq (by rw [y_X1_makeRow__a16]) Gy_no
theorem kg_y_X0_union {P : Nat} : ∀ (k b : Nat) (L : LV) (σ : CS), KG P σ → Gy P (y_X0_union k b L σ) := by
  intro k
  induction k with
  | zero => intro b L σ _; exact Gy_no
  | succ k ih =>
    intro b L σ hb
    match b with
    | 0 =>
      refine Gy_eq (by rw [y_X0_union]) ?_
      exact ih _ _ _ hb
    | 1 =>
      refine Gy_eq (by rw [y_X0_union]) ?_
      exact Gy_oc (kg_y_X1_length _ _ _ _ hb) (fun _ h32 => Gy_ite (ih _ _ _ h32) (Gy_oc (kg_y_X1_member _ _ _ _ h32) (fun _ h33 => Gy_oc (kg_y_X0_placeOf _ _ _ _ h33) (fun _ h34 => Gy_oc (kg_y_X0_load _ _ _ _ h34) (fun _ h35 => Gy_oc (kg_y_X1_length _ _ _ _ h35) (fun _ h36 => Gy_ite (ih _ _ _ h36) (Gy_oc (kg_y_X1_member _ _ _ _ h36) (fun _ h37 => Gy_oc (kg_y_X1_same _ _ _ _ h37) (fun _ h38 => Gy_ite (ih _ _ _ h38) (ih _ _ _ h38))))))))))
    | 2 =>
      refine Gy_eq (by rw [y_X0_union]) ?_
      exact Gy_oc (kg_y_X1_length _ _ _ _ hb) (fun _ h39 => Gy_oc (kg_y_X0_load _ _ _ _ h39) (fun _ h40 => Gy_oc (kg_y_X1_makeRow__a16 _ _ _ _ h40) (fun _ h41 => Gy_so h41)))
    | 3 =>
      refine Gy_eq (by rw [y_X0_union]) ?_
      exact Gy_ite (ih _ _ _ hb) (Gy_ite (ih _ _ _ (KG_o hb rfl)) (Gy_no))
    | 4 =>
      refine Gy_eq (by rw [y_X0_union]) ?_
      exact ih _ _ _ hb
    | b + 5 =>
      exact Gy_eq (by rw [y_X0_union]) Gy_no
theorem kg_y_X1_makeTuple__a16 {P : Nat} : ∀ (k b : Nat) (L : LV) (σ : CS), KG P σ → Gy P (y_X1_makeTuple__a16 k b L σ) := by
  intro k
  induction k with
  | zero => intro b L σ _; exact Gy_no
  | succ k ih =>
    intro b L σ hb
    match b with
    | 0 =>
      refine Gy_eq (by rw [y_X1_makeTuple__a16]) ?_
      exact ih _ _ _ hb
    | 1 =>
      refine Gy_eq (by rw [y_X1_makeTuple__a16]) ?_
      exact Gy_ite (ih _ _ _ hb) (Gy_ite (Gy_ite (ih _ _ _ hb) (ih _ _ _ hb)) (Gy_no))
    | 2 =>
      refine Gy_eq (by rw [y_X1_makeTuple__a16]) ?_
      exact Gy_oc (kg_y_X1_makeRow__a16 _ _ _ _ hb) (fun _ h42 => Gy_so h42)
    | b + 3 =>
      exact Gy_eq (by rw [y_X1_makeTuple__a16]) Gy_no
theorem kg_y_X0_sum {P : Nat} : ∀ (k b : Nat) (L : LV) (σ : CS), KG P σ → Gy P (y_X0_sum k b L σ) := by
  intro k
  induction k with
  | zero => intro b L σ _; exact Gy_no
  | succ k ih =>
    intro b L σ hb
    match b with
    | 0 =>
      refine Gy_eq (by rw [y_X0_sum]) ?_
      exact Gy_oc (kg_y_X1_kind _ _ _ _ hb) (fun _ h43 => Gy_oc (kg_y_X1_kind _ _ _ _ h43) (fun _ h44 => Gy_ite (ih _ _ _ h44) (Gy_so h44)))
    | 1 =>
      refine Gy_eq (by rw [y_X0_sum]) ?_
      exact Gy_ite (ih _ _ _ hb) (Gy_ite (ih _ _ _ hb) (Gy_ite (ih _ _ _ hb) (Gy_ite (ih _ _ _ hb) (Gy_ite (ih _ _ _ hb) (ih _ _ _ hb)))))
    | 2 =>
      refine Gy_eq (by rw [y_X0_sum]) ?_
      exact Gy_oc (kg_y_X10_added _ _ _ _ hb) (fun _ h45 => Gy_so h45)
    | 3 =>
      refine Gy_eq (by rw [y_X0_sum]) ?_
      exact Gy_so hb
    | 4 =>
      refine Gy_eq (by rw [y_X0_sum]) ?_
      exact Gy_oc (kg_y_X0_joined _ _ _ _ hb) (fun _ h46 => Gy_so h46)
    | 5 =>
      refine Gy_eq (by rw [y_X0_sum]) ?_
      exact Gy_oc (kg_y_X1_length _ _ _ _ hb) (fun _ h47 => Gy_oc (kg_y_X0_load _ _ _ _ h47) (fun _ h48 => Gy_oc (kg_y_X1_length _ _ _ _ h48) (fun _ h49 => Gy_oc (kg_y_X0_load _ _ _ _ h49) (fun _ h50 => Gy_oc (kg_y_X1_makeTuple__a16 _ _ _ _ h50) (fun _ h51 => Gy_so h51)))))
    | 6 =>
      refine Gy_eq (by rw [y_X0_sum]) ?_
      exact Gy_oc (kg_y_X1_length _ _ _ _ hb) (fun _ h52 => Gy_oc (kg_y_X1_length _ _ _ _ h52) (fun _ h53 => Gy_ite (ih _ _ _ h53) (Gy_oc (kg_y_X0_union _ _ _ _ h53) (fun _ h54 => ih _ _ _ h54))))
    | 7 =>
      refine Gy_eq (by rw [y_X0_sum]) ?_
      exact Gy_oc (kg_y_X0_union _ _ _ _ hb) (fun _ h55 => ih _ _ _ h55)
    | 8 =>
      refine Gy_eq (by rw [y_X0_sum]) ?_
      exact Gy_so hb
    | b + 9 =>
      exact Gy_eq (by rw [y_X0_sum]) Gy_no
theorem kg_y_X0_areWholes {P : Nat} : ∀ (k b : Nat) (L : LV) (σ : CS), KG P σ → Gy P (y_X0_areWholes k b L σ) := by
  intro k
  induction k with
  | zero => intro b L σ _; exact Gy_no
  | succ k ih =>
    intro b L σ hb
    match b with
    | 0 =>
      refine Gy_eq (by rw [y_X0_areWholes]) ?_
      exact Gy_oc (kg_y_X1_kind _ _ _ _ hb) (fun _ h56 => Gy_ite (Gy_oc (kg_y_X1_kind _ _ _ _ h56) (fun _ h57 => Gy_ite (ih _ _ _ h57) (ih _ _ _ h57))) (ih _ _ _ h56))
    | 1 =>
      refine Gy_eq (by rw [y_X0_areWholes]) ?_
      exact ih _ _ _ hb
    | 2 =>
      refine Gy_eq (by rw [y_X0_areWholes]) ?_
      exact Gy_ite (Gy_so hb) (Gy_no)
    | b + 3 =>
      exact Gy_eq (by rw [y_X0_areWholes]) Gy_no
theorem kg_y_X0_areSets {P : Nat} : ∀ (k b : Nat) (L : LV) (σ : CS), KG P σ → Gy P (y_X0_areSets k b L σ) := by
  intro k
  induction k with
  | zero => intro b L σ _; exact Gy_no
  | succ k ih =>
    intro b L σ hb
    match b with
    | 0 =>
      refine Gy_eq (by rw [y_X0_areSets]) ?_
      exact Gy_oc (kg_y_X1_kind _ _ _ _ hb) (fun _ h58 => Gy_ite (Gy_oc (kg_y_X1_kind _ _ _ _ h58) (fun _ h59 => Gy_ite (ih _ _ _ h59) (ih _ _ _ h59))) (ih _ _ _ h58))
    | 1 =>
      refine Gy_eq (by rw [y_X0_areSets]) ?_
      exact ih _ _ _ hb
    | 2 =>
      refine Gy_eq (by rw [y_X0_areSets]) ?_
      exact Gy_ite (Gy_so hb) (Gy_no)
    | b + 3 =>
      exact Gy_eq (by rw [y_X0_areSets]) Gy_no
theorem kg_y_X0_chosen {P : Nat} : ∀ (k b : Nat) (L : LV) (σ : CS), KG P σ → Gy P (y_X0_chosen k b L σ) := by
  intro k
  induction k with
  | zero => intro b L σ _; exact Gy_no
  | succ k ih =>
    intro b L σ hb
    match b with
    | 0 =>
      refine Gy_eq (by rw [y_X0_chosen]) ?_
      exact ih _ _ _ hb
    | 1 =>
      refine Gy_eq (by rw [y_X0_chosen]) ?_
      exact Gy_oc (kg_y_X1_length _ _ _ _ hb) (fun _ h60 => Gy_ite (ih _ _ _ h60) (Gy_ite (ih _ _ _ h60) (Gy_oc (kg_y_X1_member _ _ _ _ h60) (fun _ h61 => Gy_oc (kg_y_X0_placeOf _ _ _ _ h61) (fun _ h62 => Gy_oc (kg_y_X1_length _ _ _ _ h62) (fun _ h63 => Gy_ite (ih _ _ _ h63) (Gy_oc (kg_y_X1_member _ _ _ _ h63) (fun _ h64 => Gy_oc (kg_y_X1_same _ _ _ _ h64) (fun _ h65 => Gy_ite (ih _ _ _ h65) (ih _ _ _ h65))))))))))
    | 2 =>
      refine Gy_eq (by rw [y_X0_chosen]) ?_
      exact Gy_oc (kg_y_X1_makeRow__a16 _ _ _ _ hb) (fun _ h66 => Gy_so h66)
    | 3 =>
      refine Gy_eq (by rw [y_X0_chosen]) ?_
      exact ih _ _ _ hb
    | 4 =>
      refine Gy_eq (by rw [y_X0_chosen]) ?_
      exact Gy_ite (Gy_ite (ih _ _ _ (KG_o hb rfl)) (Gy_no)) (ih _ _ _ hb)
    | 5 =>
      refine Gy_eq (by rw [y_X0_chosen]) ?_
      exact ih _ _ _ hb
    | b + 6 =>
      exact Gy_eq (by rw [y_X0_chosen]) Gy_no
theorem kg_y_X0_without {P : Nat} : ∀ (k b : Nat) (L : LV) (σ : CS), KG P σ → Gy P (y_X0_without k b L σ) := by
  intro k
  induction k with
  | zero => intro b L σ _; exact Gy_no
  | succ k ih =>
    intro b L σ hb
    match b with
    | 0 =>
      refine Gy_eq (by rw [y_X0_without]) ?_
      exact ih _ _ _ hb
    | 1 =>
      refine Gy_eq (by rw [y_X0_without]) ?_
      exact Gy_oc (kg_y_X1_length _ _ _ _ hb) (fun _ h67 => Gy_ite (ih _ _ _ h67) (Gy_oc (kg_y_X1_member _ _ _ _ h67) (fun _ h68 => Gy_oc (kg_y_X0_placeOf _ _ _ _ h68) (fun _ h69 => Gy_oc (kg_y_X0_load _ _ _ _ h69) (fun _ h70 => Gy_oc (kg_y_X1_length _ _ _ _ h70) (fun _ h71 => Gy_ite (ih _ _ _ h71) (Gy_oc (kg_y_X1_member _ _ _ _ h71) (fun _ h72 => Gy_oc (kg_y_X1_same _ _ _ _ h72) (fun _ h73 => Gy_ite (ih _ _ _ h73) (ih _ _ _ h73))))))))))
    | 2 =>
      refine Gy_eq (by rw [y_X0_without]) ?_
      exact Gy_oc (kg_y_X1_length _ _ _ _ hb) (fun _ h74 => Gy_oc (kg_y_X0_load _ _ _ _ h74) (fun _ h75 => Gy_oc (kg_y_X1_makeRow__a16 _ _ _ _ h75) (fun _ h76 => Gy_so h76)))
    | 3 =>
      refine Gy_eq (by rw [y_X0_without]) ?_
      exact ih _ _ _ hb
    | 4 =>
      refine Gy_eq (by rw [y_X0_without]) ?_
      exact ih _ _ _ hb
    | b + 5 =>
      exact Gy_eq (by rw [y_X0_without]) Gy_no
theorem kg_y_X0_difference {P : Nat} : ∀ (k b : Nat) (L : LV) (σ : CS), KG P σ → Gy P (y_X0_difference k b L σ) := by
  intro k
  induction k with
  | zero => intro b L σ _; exact Gy_no
  | succ k ih =>
    intro b L σ hb
    match b with
    | 0 =>
      refine Gy_eq (by rw [y_X0_difference]) ?_
      exact Gy_oc (kg_y_X0_areWholes _ _ _ _ hb) (fun _ h77 => Gy_ite (ih _ _ _ h77) (Gy_oc (kg_y_X10_added _ _ _ _ h77) (fun _ h78 => Gy_so h78)))
    | 1 =>
      refine Gy_eq (by rw [y_X0_difference]) ?_
      exact Gy_oc (kg_y_X0_areSets _ _ _ _ hb) (fun _ h79 => Gy_ite (Gy_so h79) (ih _ _ _ h79))
    | 2 =>
      refine Gy_eq (by rw [y_X0_difference]) ?_
      exact Gy_oc (kg_y_X1_length _ _ _ _ hb) (fun _ h80 => Gy_oc (kg_y_X1_length _ _ _ _ h80) (fun _ h81 => Gy_ite (ih _ _ _ h81) (Gy_oc (kg_y_X0_chosen _ _ _ _ h81) (fun _ h82 => ih _ _ _ h82))))
    | 3 =>
      refine Gy_eq (by rw [y_X0_difference]) ?_
      exact Gy_oc (kg_y_X0_without _ _ _ _ hb) (fun _ h83 => ih _ _ _ h83)
    | 4 =>
      refine Gy_eq (by rw [y_X0_difference]) ?_
      exact Gy_so hb
    | b + 5 =>
      exact Gy_eq (by rw [y_X0_difference]) Gy_no
theorem kg_y_X10_product {P : Nat} : ∀ (k b : Nat) (L : LV) (σ : CS), KG P σ → Gy P (y_X10_product k b L σ) := by
  intro k
  induction k with
  | zero => intro b L σ _; exact Gy_no
  | succ k ih =>
    intro b L σ hb
    match b with
    | 0 =>
      refine Gy_eq (by rw [y_X10_product]) ?_
      exact Gy_ite (ih _ _ _ hb) (Gy_ite (ih _ _ _ hb) (Gy_oc (kg_y_X10_of _ _ _ _ hb) (fun _ h84 => Gy_so h84)))
    | 1 =>
      refine Gy_eq (by rw [y_X10_product]) ?_
      exact Gy_oc (kg_y_X10_load__a5 _ _ _ _ hb) (fun _ h85 => Gy_oc (kg_y_X10_load__a6 _ _ _ _ h85) (fun _ h86 => Gy_ite (ih _ _ _ h86) (Gy_ite (ih _ _ _ h86) (Gy_ite (ih _ _ _ h86) (ih _ _ _ h86)))))
    | 2 =>
      refine Gy_eq (by rw [y_X10_product]) ?_
      exact ih _ _ _ hb
    | 3 =>
      refine Gy_eq (by rw [y_X10_product]) ?_
      exact ih _ _ _ hb
    | 4 =>
      refine Gy_eq (by rw [y_X10_product]) ?_
      exact ih _ _ _ hb
    | 5 =>
      refine Gy_eq (by rw [y_X10_product]) ?_
      exact Gy_ite (ih _ _ _ hb) (Gy_ite (ih _ _ _ (KG_o hb rfl)) (Gy_no))
    | 6 =>
      refine Gy_eq (by rw [y_X10_product]) ?_
      exact Gy_so hb
    | 7 =>
      refine Gy_eq (by rw [y_X10_product]) ?_
      exact ih _ _ _ hb
    | 8 =>
      refine Gy_eq (by rw [y_X10_product]) ?_
      exact Gy_ite (ih _ _ _ hb) (Gy_ite (ih _ _ _ hb) (Gy_no))
    | 9 =>
      refine Gy_eq (by rw [y_X10_product]) ?_
      exact Gy_oc (kg_y_X10_isBelow _ _ _ _ hb) (fun _ h87 => Gy_oc (kg_y_X10_isBelow _ _ _ _ h87) (fun _ h88 => Gy_ite (ih _ _ _ h88) (ih _ _ _ h88)))
    | 10 =>
      refine Gy_eq (by rw [y_X10_product]) ?_
      exact Gy_ite (ih _ _ _ hb) (Gy_ite (Gy_ite (Gy_ite (ih _ _ _ (KG_o hb rfl)) (Gy_no)) (Gy_no)) (Gy_no))
    | 11 =>
      refine Gy_eq (by rw [y_X10_product]) ?_
      exact ih _ _ _ hb
    | 12 =>
      refine Gy_eq (by rw [y_X10_product]) ?_
      exact Gy_oc (kg_y_X10_made _ _ _ _ hb) (fun _ h89 => Gy_so h89)
    | 13 =>
      refine Gy_eq (by rw [y_X10_product]) ?_
      exact Gy_ite (ih _ _ _ (KG_o hb rfl)) (Gy_no)
    | b + 14 =>
      exact Gy_eq (by rw [y_X10_product]) Gy_no
theorem kg_y_X10_clamped {P : Nat} : ∀ (k b : Nat) (L : LV) (σ : CS), KG P σ → Gy P (y_X10_clamped k b L σ) := by
  intro k
  induction k with
  | zero => intro b L σ _; exact Gy_no
  | succ k ih =>
    intro b L σ hb
    match b with
    | 0 =>
      refine Gy_eq (by rw [y_X10_clamped]) ?_
      exact Gy_ite (ih _ _ _ hb) (Gy_so hb)
    | 1 =>
      refine Gy_eq (by rw [y_X10_clamped]) ?_
      exact Gy_ite (Gy_ite (ih _ _ _ hb) (ih _ _ _ hb)) (Gy_no)
    | 2 =>
      refine Gy_eq (by rw [y_X10_clamped]) ?_
      exact ih _ _ _ hb
    | 3 =>
      refine Gy_eq (by rw [y_X10_clamped]) ?_
      exact Gy_so hb
    | b + 4 =>
      exact Gy_eq (by rw [y_X10_clamped]) Gy_no
theorem kg_y_X0_repeated {P : Nat} : ∀ (k b : Nat) (L : LV) (σ : CS), KG P σ → Gy P (y_X0_repeated k b L σ) := by
  intro k
  induction k with
  | zero => intro b L σ _; exact Gy_no
  | succ k ih =>
    intro b L σ hb
    match b with
    | 0 =>
      refine Gy_eq (by rw [y_X0_repeated]) ?_
      exact Gy_oc (kg_y_X1_length _ _ _ _ hb) (fun _ h90 => Gy_ite (ih _ _ _ h90) (Gy_ite (ih _ _ _ h90) (ih _ _ _ h90)))
    | 1 =>
      refine Gy_eq (by rw [y_X0_repeated]) ?_
      exact Gy_ite (ih _ _ _ hb) (ih _ _ _ hb)
    | 2 =>
      refine Gy_eq (by rw [y_X0_repeated]) ?_
      exact Gy_ite (ih _ _ _ hb) (ih _ _ _ hb)
    | 3 =>
      refine Gy_eq (by rw [y_X0_repeated]) ?_
      exact ih _ _ _ hb
    | 4 =>
      refine Gy_eq (by rw [y_X0_repeated]) ?_
      exact Gy_so hb
    | 5 =>
      refine Gy_eq (by rw [y_X0_repeated]) ?_
      exact ih _ _ _ hb
    | 6 =>
      refine Gy_eq (by rw [y_X0_repeated]) ?_
      exact Gy_ite (ih _ _ _ hb) (Gy_so hb)
    | 7 =>
      refine Gy_eq (by rw [y_X0_repeated]) ?_
      exact ih _ _ _ hb
    | 8 =>
      refine Gy_eq (by rw [y_X0_repeated]) ?_
      exact Gy_ite (ih _ _ _ hb) (Gy_ite (Gy_oc (kg_y_X1_copyBytes__a15 _ _ _ _ hb) (fun _ h91 => ih _ _ _ h91)) (ih _ _ _ hb))
    | 9 =>
      refine Gy_eq (by rw [y_X0_repeated]) ?_
      exact Gy_ite (Gy_oc (kg_y_X1_makeString__a15 _ _ _ _ hb) (fun _ h92 => ih _ _ _ h92)) (ih _ _ _ hb)
    | 10 =>
      refine Gy_eq (by rw [y_X0_repeated]) ?_
      exact Gy_oc (kg_y_X0_load _ _ _ _ hb) (fun _ h93 => ih _ _ _ h93)
    | 11 =>
      refine Gy_eq (by rw [y_X0_repeated]) ?_
      exact ih _ _ _ hb
    | 12 =>
      refine Gy_eq (by rw [y_X0_repeated]) ?_
      exact Gy_oc (kg_y_X1_makeTuple__a16 _ _ _ _ hb) (fun _ h94 => ih _ _ _ h94)
    | 13 =>
      refine Gy_eq (by rw [y_X0_repeated]) ?_
      exact Gy_so hb
    | b + 14 =>
      exact Gy_eq (by rw [y_X0_repeated]) Gy_no
theorem kg_y_X0_product {P : Nat} : ∀ (k b : Nat) (L : LV) (σ : CS), KG P σ → Gy P (y_X0_product k b L σ) := by
  intro k
  induction k with
  | zero => intro b L σ _; exact Gy_no
  | succ k ih =>
    intro b L σ hb
    match b with
    | 0 =>
      refine Gy_eq (by rw [y_X0_product]) ?_
      exact Gy_oc (kg_y_X0_areWholes _ _ _ _ hb) (fun _ h95 => Gy_ite (ih _ _ _ h95) (Gy_oc (kg_y_X10_product _ _ _ _ h95) (fun _ h96 => Gy_so h96)))
    | 1 =>
      refine Gy_eq (by rw [y_X0_product]) ?_
      exact Gy_oc (kg_y_X0_areSets _ _ _ _ hb) (fun _ h97 => Gy_ite (ih _ _ _ h97) (Gy_oc (kg_y_X1_length _ _ _ _ h97) (fun _ h98 => Gy_oc (kg_y_X1_length _ _ _ _ h98) (fun _ h99 => Gy_ite (ih _ _ _ h99) (Gy_oc (kg_y_X0_chosen _ _ _ _ h99) (fun _ h100 => ih _ _ _ h100))))))
    | 2 =>
      refine Gy_eq (by rw [y_X0_product]) ?_
      exact Gy_oc (kg_y_X1_kind _ _ _ _ hb) (fun _ h101 => Gy_oc (kg_y_X1_kind _ _ _ _ h101) (fun _ h102 => Gy_ite (Gy_ite (ih _ _ _ h102) (Gy_ite (ih _ _ _ h102) (ih _ _ _ h102))) (ih _ _ _ h102)))
    | 3 =>
      refine Gy_eq (by rw [y_X0_product]) ?_
      exact Gy_oc (kg_y_X0_chosen _ _ _ _ hb) (fun _ h103 => ih _ _ _ h103)
    | 4 =>
      refine Gy_eq (by rw [y_X0_product]) ?_
      exact Gy_so hb
    | 5 =>
      refine Gy_eq (by rw [y_X0_product]) ?_
      exact Gy_so hb
    | 6 =>
      refine Gy_eq (by rw [y_X0_product]) ?_
      exact Gy_oc (kg_y_X10_isBelow _ _ _ _ hb) (fun _ h104 => Gy_ite (ih _ _ _ h104) (ih _ _ _ h104))
    | 7 =>
      refine Gy_eq (by rw [y_X0_product]) ?_
      exact Gy_oc (kg_y_X10_clamped _ _ _ _ hb) (fun _ h105 => Gy_oc (kg_y_X0_repeated _ _ _ _ h105) (fun _ h106 => ih _ _ _ h106))
    | 8 =>
      refine Gy_eq (by rw [y_X0_product]) ?_
      exact Gy_so hb
    | b + 9 =>
      exact Gy_eq (by rw [y_X0_product]) Gy_no
theorem kg_y_X10_number {P : Nat} : ∀ (k b : Nat) (L : LV) (σ : CS), KG P σ → Gy P (y_X10_number k b L σ) := by
  intro k
  induction k with
  | zero => intro b L σ _; exact Gy_no
  | succ k ih =>
    intro b L σ hb
    match b with
    | 0 =>
      refine Gy_eq (by rw [y_X10_number]) ?_
      exact Gy_so hb
    | b + 1 =>
      exact Gy_eq (by rw [y_X10_number]) Gy_no
theorem kg_y_X10_dividedSmall {P : Nat} : ∀ (k b : Nat) (L : LV) (σ : CS), KG P σ → Gy P (y_X10_dividedSmall k b L σ) := by
  intro k
  induction k with
  | zero => intro b L σ _; exact Gy_no
  | succ k ih =>
    intro b L σ hb
    match b with
    | 0 =>
      refine Gy_eq (by rw [y_X10_dividedSmall]) ?_
      exact Gy_ite (Gy_so hb) (ih _ _ _ hb)
    | 1 =>
      refine Gy_eq (by rw [y_X10_dividedSmall]) ?_
      exact Gy_ite (Gy_no) (Gy_ite (ih _ _ _ hb) (Gy_ite (ih _ _ _ hb) (ih _ _ _ hb)))
    | 2 =>
      refine Gy_eq (by rw [y_X10_dividedSmall]) ?_
      exact Gy_ite (ih _ _ _ hb) (ih _ _ _ hb)
    | 3 =>
      refine Gy_eq (by rw [y_X10_dividedSmall]) ?_
      exact ih _ _ _ hb
    | 4 =>
      refine Gy_eq (by rw [y_X10_dividedSmall]) ?_
      exact ih _ _ _ hb
    | 5 =>
      refine Gy_eq (by rw [y_X10_dividedSmall]) ?_
      exact Gy_ite (Gy_no) (ih _ _ _ hb)
    | 6 =>
      refine Gy_eq (by rw [y_X10_dividedSmall]) ?_
      exact Gy_oc (kg_y_X10_of _ _ _ _ hb) (fun _ h107 => Gy_so h107)
    | b + 7 =>
      exact Gy_eq (by rw [y_X10_dividedSmall]) Gy_no
theorem kg_y_X10_addBack {P : Nat} : ∀ (k b : Nat) (L : LV) (σ : CS), KG P σ → Gy P (y_X10_addBack k b L σ) := by
  intro k
  induction k with
  | zero => intro b L σ _; exact Gy_no
  | succ k ih =>
    intro b L σ hb
    match b with
    | 0 =>
      refine Gy_eq (by rw [y_X10_addBack]) ?_
      exact ih _ _ _ hb
    | 1 =>
      refine Gy_eq (by rw [y_X10_addBack]) ?_
      exact Gy_ite (ih _ _ _ hb) (Gy_ite (Gy_ite (Gy_ite (ih _ _ _ (KG_o hb rfl)) (Gy_no)) (Gy_no)) (Gy_no))
    | 2 =>
      refine Gy_eq (by rw [y_X10_addBack]) ?_
      exact Gy_ite (Gy_ite (Gy_so (KG_o hb rfl)) (Gy_no)) (Gy_no)
    | b + 3 =>
      exact Gy_eq (by rw [y_X10_addBack]) Gy_no
theorem kg_y_X10_quotientDigit {P : Nat} : ∀ (k b : Nat) (L : LV) (σ : CS), KG P σ → Gy P (y_X10_quotientDigit k b L σ) := by
  intro k
  induction k with
  | zero => intro b L σ _; exact Gy_no
  | succ k ih =>
    intro b L σ hb
    match b with
    | 0 =>
      refine Gy_eq (by rw [y_X10_quotientDigit]) ?_
      exact Gy_ite (ih _ _ _ hb) (Gy_ite (ih _ _ _ hb) (Gy_no))
    | 1 =>
      refine Gy_eq (by rw [y_X10_quotientDigit]) ?_
      exact ih _ _ _ hb
    | 2 =>
      refine Gy_eq (by rw [y_X10_quotientDigit]) ?_
      exact Gy_ite (Gy_so hb) (ih _ _ _ hb)
    | 3 =>
      refine Gy_eq (by rw [y_X10_quotientDigit]) ?_
      exact Gy_ite (ih _ _ _ hb) (Gy_ite (ih _ _ _ hb) (Gy_no))
    | 4 =>
      refine Gy_eq (by rw [y_X10_quotientDigit]) ?_
      exact ih _ _ _ hb
    | 5 =>
      refine Gy_eq (by rw [y_X10_quotientDigit]) ?_
      exact Gy_ite (ih _ _ _ hb) (Gy_ite (ih _ _ _ hb) (Gy_no))
    | 6 =>
      refine Gy_eq (by rw [y_X10_quotientDigit]) ?_
      exact ih _ _ _ hb
    | 7 =>
      refine Gy_eq (by rw [y_X10_quotientDigit]) ?_
      exact Gy_ite (Gy_ite (Gy_ite (Gy_no) (ih _ _ _ hb)) (Gy_no)) (Gy_no)
    | 8 =>
      refine Gy_eq (by rw [y_X10_quotientDigit]) ?_
      exact Gy_ite (ih _ _ _ hb) (Gy_ite (ih _ _ _ hb) (Gy_ite (ih _ _ _ hb) (Gy_ite (ih _ _ _ hb) (ih _ _ _ hb))))
    | 9 =>
      refine Gy_eq (by rw [y_X10_quotientDigit]) ?_
      exact ih _ _ _ hb
    | 10 =>
      refine Gy_eq (by rw [y_X10_quotientDigit]) ?_
      exact ih _ _ _ hb
    | 11 =>
      refine Gy_eq (by rw [y_X10_quotientDigit]) ?_
      exact Gy_ite (ih _ _ _ hb) (Gy_ite (Gy_ite (Gy_ite (ih _ _ _ (KG_o hb rfl)) (Gy_no)) (Gy_no)) (Gy_no))
    | 12 =>
      refine Gy_eq (by rw [y_X10_quotientDigit]) ?_
      exact Gy_ite (Gy_ite (Gy_ite (ih _ _ _ (KG_o hb rfl)) (Gy_oc (kg_y_X10_addBack _ _ _ _ (KG_o hb rfl)) (fun _ h108 => ih _ _ _ h108))) (Gy_no)) (Gy_no)
    | 13 =>
      refine Gy_eq (by rw [y_X10_quotientDigit]) ?_
      exact Gy_so hb
    | b + 14 =>
      exact Gy_eq (by rw [y_X10_quotientDigit]) Gy_no
theorem kg_y_J7_fill_53178__a10 {P : Nat} : ∀ (k b : Nat) (L : LV) (σ : CS), KG P σ → Gy P (y_J7_fill_53178__a10 k b L σ) := by
  intro k
  induction k with
  | zero => intro b L σ _; exact Gy_no
  | succ k ih =>
    intro b L σ hb
    match b with
    | 0 =>
      refine Gy_eq (by rw [y_J7_fill_53178__a10]) ?_
      exact ih _ _ _ hb
    | 1 =>
      refine Gy_eq (by rw [y_J7_fill_53178__a10]) ?_
      exact Gy_ite (ih _ _ _ hb) (Gy_ite (ih _ _ _ (KG_o hb rfl)) (Gy_no))
    | 2 =>
      refine Gy_eq (by rw [y_J7_fill_53178__a10]) ?_
      exact Gy_so hb
    | b + 3 =>
      exact Gy_eq (by rw [y_J7_fill_53178__a10]) Gy_no
theorem kg_y_J7_fill_53178__a8 {P : Nat} : ∀ (k b : Nat) (L : LV) (σ : CS), KG P σ → Gy P (y_J7_fill_53178__a8 k b L σ) := by
  intro k
  induction k with
  | zero => intro b L σ _; exact Gy_no
  | succ k ih =>
    intro b L σ hb
    match b with
    | 0 =>
      refine Gy_eq (by rw [y_J7_fill_53178__a8]) ?_
      exact ih _ _ _ hb
    | 1 =>
      refine Gy_eq (by rw [y_J7_fill_53178__a8]) ?_
      exact Gy_ite (ih _ _ _ hb) (Gy_ite (ih _ _ _ (KG_o hb rfl)) (Gy_no))
    | 2 =>
      refine Gy_eq (by rw [y_J7_fill_53178__a8]) ?_
      exact Gy_so hb
    | b + 3 =>
      exact Gy_eq (by rw [y_J7_fill_53178__a8]) Gy_no
theorem kg_y_J7_fill_53178__a9 {P : Nat} : ∀ (k b : Nat) (L : LV) (σ : CS), KG P σ → Gy P (y_J7_fill_53178__a9 k b L σ) := by
  intro k
  induction k with
  | zero => intro b L σ _; exact Gy_no
  | succ k ih =>
    intro b L σ hb
    match b with
    | 0 =>
      refine Gy_eq (by rw [y_J7_fill_53178__a9]) ?_
      exact ih _ _ _ hb
    | 1 =>
      refine Gy_eq (by rw [y_J7_fill_53178__a9]) ?_
      exact Gy_ite (ih _ _ _ hb) (Gy_ite (ih _ _ _ (KG_o hb rfl)) (Gy_no))
    | 2 =>
      refine Gy_eq (by rw [y_J7_fill_53178__a9]) ?_
      exact Gy_so hb
    | b + 3 =>
      exact Gy_eq (by rw [y_J7_fill_53178__a9]) Gy_no
theorem kg_y_X10_shiftUp__a8 {P : Nat} : ∀ (k b : Nat) (L : LV) (σ : CS), KG P σ → Gy P (y_X10_shiftUp__a8 k b L σ) := by
  intro k
  induction k with
  | zero => intro b L σ _; exact Gy_no
  | succ k ih =>
    intro b L σ hb
    match b with
    | 0 =>
      refine Gy_eq (by rw [y_X10_shiftUp__a8]) ?_
      exact ih _ _ _ hb
    | 1 =>
      refine Gy_eq (by rw [y_X10_shiftUp__a8]) ?_
      exact Gy_ite (ih _ _ _ hb) (Gy_ite (Gy_ite (ih _ _ _ (KG_o hb rfl)) (Gy_no)) (Gy_no))
    | 2 =>
      refine Gy_eq (by rw [y_X10_shiftUp__a8]) ?_
      exact Gy_so hb
    | b + 3 =>
      exact Gy_eq (by rw [y_X10_shiftUp__a8]) Gy_no
theorem kg_y_X10_shiftUp__a9 {P : Nat} : ∀ (k b : Nat) (L : LV) (σ : CS), KG P σ → Gy P (y_X10_shiftUp__a9 k b L σ) := by
  intro k
  induction k with
  | zero => intro b L σ _; exact Gy_no
  | succ k ih =>
    intro b L σ hb
    match b with
    | 0 =>
      refine Gy_eq (by rw [y_X10_shiftUp__a9]) ?_
      exact ih _ _ _ hb
    | 1 =>
      refine Gy_eq (by rw [y_X10_shiftUp__a9]) ?_
      exact Gy_ite (ih _ _ _ hb) (Gy_ite (Gy_ite (ih _ _ _ (KG_o hb rfl)) (Gy_no)) (Gy_no))
    | 2 =>
      refine Gy_eq (by rw [y_X10_shiftUp__a9]) ?_
      exact Gy_so hb
    | b + 3 =>
      exact Gy_eq (by rw [y_X10_shiftUp__a9]) Gy_no
theorem kg_y_X10_shiftDown__a8 {P : Nat} : ∀ (k b : Nat) (L : LV) (σ : CS), KG P σ → Gy P (y_X10_shiftDown__a8 k b L σ) := by
  intro k
  induction k with
  | zero => intro b L σ _; exact Gy_no
  | succ k ih =>
    intro b L σ hb
    match b with
    | 0 =>
      refine Gy_eq (by rw [y_X10_shiftDown__a8]) ?_
      exact ih _ _ _ hb
    | 1 =>
      refine Gy_eq (by rw [y_X10_shiftDown__a8]) ?_
      exact Gy_ite (ih _ _ _ hb) (Gy_ite (Gy_ite (Gy_ite (ih _ _ _ (KG_o hb rfl)) (Gy_no)) (Gy_no)) (Gy_no))
    | 2 =>
      refine Gy_eq (by rw [y_X10_shiftDown__a8]) ?_
      exact Gy_so hb
    | b + 3 =>
      exact Gy_eq (by rw [y_X10_shiftDown__a8]) Gy_no
theorem kg_y_X10_divideLimbs {P : Nat} : ∀ (k b : Nat) (L : LV) (σ : CS), KG P σ → Gy P (y_X10_divideLimbs k b L σ) := by
  intro k
  induction k with
  | zero => intro b L σ _; exact Gy_no
  | succ k ih =>
    intro b L σ hb
    match b with
    | 0 =>
      refine Gy_eq (by rw [y_X10_divideLimbs]) ?_
      exact Gy_oc (kg_y_J7_fill_53178__a10 _ _ _ _ hb) (fun _ h109 => Gy_oc (kg_y_J7_fill_53178__a8 _ _ _ _ h109) (fun _ h110 => Gy_oc (kg_y_J7_fill_53178__a9 _ _ _ _ h110) (fun _ h111 => ih _ _ _ h111)))
    | 1 =>
      refine Gy_eq (by rw [y_X10_divideLimbs]) ?_
      exact ih _ _ _ hb
    | 2 =>
      refine Gy_eq (by rw [y_X10_divideLimbs]) ?_
      exact Gy_ite (ih _ _ _ hb) (Gy_ite (Gy_ite (Gy_ite (Gy_ite (ih _ _ _ (KG_o (KG_o hb rfl) rfl)) (Gy_no)) (Gy_no)) (Gy_no)) (Gy_no))
    | 3 =>
      refine Gy_eq (by rw [y_X10_divideLimbs]) ?_
      exact ih _ _ _ hb
    | 4 =>
      refine Gy_eq (by rw [y_X10_divideLimbs]) ?_
      exact Gy_ite (ih _ _ _ hb) (Gy_ite (Gy_ite (Gy_ite (Gy_ite (ih _ _ _ (KG_o (KG_o hb rfl) rfl)) (Gy_no)) (Gy_no)) (Gy_no)) (Gy_no))
    | 5 =>
      refine Gy_eq (by rw [y_X10_divideLimbs]) ?_
      exact Gy_ite (ih _ _ _ hb) (Gy_ite (Gy_ite (ih _ _ _ hb) (ih _ _ _ hb)) (Gy_no))
    | 6 =>
      refine Gy_eq (by rw [y_X10_divideLimbs]) ?_
      exact ih _ _ _ hb
    | 7 =>
      refine Gy_eq (by rw [y_X10_divideLimbs]) ?_
      exact Gy_ite (ih _ _ _ hb) (Gy_ite (ih _ _ _ hb) (Gy_ite (Gy_ite (ih _ _ _ hb) (ih _ _ _ hb)) (Gy_no)))
    | 8 =>
      refine Gy_eq (by rw [y_X10_divideLimbs]) ?_
      exact Gy_oc (kg_y_X10_shiftUp__a8 _ _ _ _ hb) (fun _ h112 => Gy_oc (kg_y_X10_shiftUp__a9 _ _ _ _ h112) (fun _ h113 => ih _ _ _ h113))
    | 9 =>
      refine Gy_eq (by rw [y_X10_divideLimbs]) ?_
      exact Gy_ite (ih _ _ _ hb) (Gy_oc (kg_y_X10_quotientDigit _ _ _ _ hb) (fun _ h114 => Gy_ite (ih _ _ _ (KG_o h114 rfl)) (Gy_no)))
    | 10 =>
      refine Gy_eq (by rw [y_X10_divideLimbs]) ?_
      exact Gy_oc (kg_y_X10_shiftDown__a8 _ _ _ _ hb) (fun _ h115 => ih _ _ _ h115)
    | 11 =>
      refine Gy_eq (by rw [y_X10_divideLimbs]) ?_
      exact Gy_ite (ih _ _ _ hb) (Gy_ite (Gy_ite (ih _ _ _ hb) (ih _ _ _ hb)) (Gy_no))
    | 12 =>
      refine Gy_eq (by rw [y_X10_divideLimbs]) ?_
      exact Gy_so hb
    | 13 =>
      refine Gy_eq (by rw [y_X10_divideLimbs]) ?_
      exact ih _ _ _ hb
    | 14 =>
      refine Gy_eq (by rw [y_X10_divideLimbs]) ?_
      exact ih _ _ _ hb
    | b + 15 =>
      exact Gy_eq (by rw [y_X10_divideLimbs]) Gy_no
theorem kg_y_X10_unpackRest {P : Nat} : ∀ (k b : Nat) (L : LV) (σ : CS), KG P σ → Gy P (y_X10_unpackRest k b L σ) := by
  intro k
  induction k with
  | zero => intro b L σ _; exact Gy_no
  | succ k ih =>
    intro b L σ hb
    match b with
    | 0 =>
      refine Gy_eq (by rw [y_X10_unpackRest]) ?_
      exact ih _ _ _ hb
    | 1 =>
      refine Gy_eq (by rw [y_X10_unpackRest]) ?_
      exact Gy_ite (ih _ _ _ hb) (Gy_ite (Gy_ite (Gy_ite (ih _ _ _ (KG_o hb rfl)) (Gy_no)) (Gy_no)) (Gy_no))
    | 2 =>
      refine Gy_eq (by rw [y_X10_unpackRest]) ?_
      exact Gy_so hb
    | b + 3 =>
      exact Gy_eq (by rw [y_X10_unpackRest]) Gy_no
theorem kg_y_X10_restLimbs {P : Nat} : ∀ (k b : Nat) (L : LV) (σ : CS), KG P σ → Gy P (y_X10_restLimbs k b L σ) := by
  intro k
  induction k with
  | zero => intro b L σ _; exact Gy_no
  | succ k ih =>
    intro b L σ hb
    match b with
    | 0 =>
      refine Gy_eq (by rw [y_X10_restLimbs]) ?_
      exact ih _ _ _ hb
    | 1 =>
      refine Gy_eq (by rw [y_X10_restLimbs]) ?_
      exact Gy_ite (ih _ _ _ hb) (Gy_ite (Gy_ite (ih _ _ _ hb) (ih _ _ _ hb)) (Gy_no))
    | 2 =>
      refine Gy_eq (by rw [y_X10_restLimbs]) ?_
      exact Gy_so hb
    | b + 3 =>
      exact Gy_eq (by rw [y_X10_restLimbs]) Gy_no
theorem kg_y_X10_unpackQuotient {P : Nat} : ∀ (k b : Nat) (L : LV) (σ : CS), KG P σ → Gy P (y_X10_unpackQuotient k b L σ) := by
  intro k
  induction k with
  | zero => intro b L σ _; exact Gy_no
  | succ k ih =>
    intro b L σ hb
    match b with
    | 0 =>
      refine Gy_eq (by rw [y_X10_unpackQuotient]) ?_
      exact ih _ _ _ hb
    | 1 =>
      refine Gy_eq (by rw [y_X10_unpackQuotient]) ?_
      exact Gy_ite (ih _ _ _ hb) (Gy_ite (Gy_ite (Gy_ite (ih _ _ _ (KG_o hb rfl)) (Gy_no)) (Gy_no)) (Gy_no))
    | 2 =>
      refine Gy_eq (by rw [y_X10_unpackQuotient]) ?_
      exact Gy_so hb
    | b + 3 =>
      exact Gy_eq (by rw [y_X10_unpackQuotient]) Gy_no
theorem kg_y_X10_addOne {P : Nat} : ∀ (k b : Nat) (L : LV) (σ : CS), KG P σ → Gy P (y_X10_addOne k b L σ) := by
  intro k
  induction k with
  | zero => intro b L σ _; exact Gy_no
  | succ k ih =>
    intro b L σ hb
    match b with
    | 0 =>
      refine Gy_eq (by rw [y_X10_addOne]) ?_
      exact ih _ _ _ hb
    | 1 =>
      refine Gy_eq (by rw [y_X10_addOne]) ?_
      exact Gy_ite (ih _ _ _ hb) (Gy_ite (Gy_ite (Gy_ite (Gy_ite (ih _ _ _ (KG_o hb rfl)) (Gy_so (KG_o hb rfl))) (Gy_no)) (Gy_no)) (Gy_no))
    | 2 =>
      refine Gy_eq (by rw [y_X10_addOne]) ?_
      exact Gy_ite (Gy_so (KG_o hb rfl)) (Gy_no)
    | 3 =>
      refine Gy_eq (by rw [y_X10_addOne]) ?_
      exact ih _ _ _ hb
    | b + 4 =>
      exact Gy_eq (by rw [y_X10_addOne]) Gy_no
theorem kg_y_X10_divided {P : Nat} : ∀ (k b : Nat) (L : LV) (σ : CS), KG P σ → Gy P (y_X10_divided k b L σ) := by
  intro k
  induction k with
  | zero => intro b L σ _; exact Gy_no
  | succ k ih =>
    intro b L σ hb
    match b with
    | 0 =>
      refine Gy_eq (by rw [y_X10_divided]) ?_
      exact Gy_ite (Gy_so hb) (ih _ _ _ hb)
    | 1 =>
      refine Gy_eq (by rw [y_X10_divided]) ?_
      exact Gy_ite (ih _ _ _ hb) (Gy_ite (ih _ _ _ hb) (Gy_oc (kg_y_X10_number _ _ _ _ hb) (fun _ h116 => Gy_oc (kg_y_X10_number _ _ _ _ h116) (fun _ h117 => Gy_oc (kg_y_X10_dividedSmall _ _ _ _ h117) (fun _ h118 => Gy_so h118)))))
    | 2 =>
      refine Gy_eq (by rw [y_X10_divided]) ?_
      exact Gy_oc (kg_y_X10_load__a5 _ _ _ _ hb) (fun _ h119 => Gy_oc (kg_y_X10_load__a6 _ _ _ _ h119) (fun _ h120 => Gy_oc (kg_y_X10_isBelow _ _ _ _ h120) (fun _ h121 => Gy_oc (kg_y_X10_divideLimbs _ _ _ _ h121) (fun _ h122 => Gy_ite (ih _ _ _ h122) (ih _ _ _ h122)))))
    | 3 =>
      refine Gy_eq (by rw [y_X10_divided]) ?_
      exact ih _ _ _ hb
    | 4 =>
      refine Gy_eq (by rw [y_X10_divided]) ?_
      exact Gy_ite (ih _ _ _ hb) (Gy_oc (kg_y_X10_unpackRest _ _ _ _ hb) (fun _ h123 => Gy_ite (ih _ _ _ h123) (Gy_ite (ih _ _ _ h123) (ih _ _ _ h123))))
    | 5 =>
      refine Gy_eq (by rw [y_X10_divided]) ?_
      exact Gy_oc (kg_y_X10_unpackQuotient _ _ _ _ hb) (fun _ h124 => Gy_ite (ih _ _ _ h124) (Gy_ite (Gy_oc (kg_y_X10_addOne _ _ _ _ h124) (fun _ h125 => ih _ _ _ h125)) (ih _ _ _ h124)))
    | 6 =>
      refine Gy_eq (by rw [y_X10_divided]) ?_
      exact Gy_oc (kg_y_X10_made _ _ _ _ hb) (fun _ h126 => Gy_so h126)
    | 7 =>
      refine Gy_eq (by rw [y_X10_divided]) ?_
      exact Gy_ite (Gy_oc (kg_y_X10_load__a6 _ _ _ _ (KG_o hb rfl)) (fun _ h127 => Gy_oc (kg_y_X10_restLimbs _ _ _ _ h127) (fun _ h128 => Gy_oc (kg_y_X10_takeLimbs__a6__a5 _ _ _ _ h128) (fun _ h129 => Gy_oc (kg_y_X10_made _ _ _ _ h129) (fun _ h130 => Gy_so h130))))) (Gy_no)
    | 8 =>
      refine Gy_eq (by rw [y_X10_divided]) ?_
      exact Gy_oc (kg_y_X10_isBelow _ _ _ _ hb) (fun _ h131 => Gy_ite (ih _ _ _ h131) (ih _ _ _ h131))
    | 9 =>
      refine Gy_eq (by rw [y_X10_divided]) ?_
      exact ih _ _ _ hb
    | 10 =>
      refine Gy_eq (by rw [y_X10_divided]) ?_
      exact Gy_oc (kg_y_X10_made _ _ _ _ hb) (fun _ h132 => Gy_so h132)
    | b + 11 =>
      exact Gy_eq (by rw [y_X10_divided]) Gy_no
theorem kg_y_X11_isError {P : Nat} : ∀ (k b : Nat) (L : LV) (σ : CS), KG P σ → Gy P (y_X11_isError k b L σ) := by
  intro k
  induction k with
  | zero => intro b L σ _; exact Gy_no
  | succ k ih =>
    intro b L σ hb
    match b with
    | 0 =>
      refine Gy_eq (by rw [y_X11_isError]) ?_
      exact Gy_ite (ih _ _ _ hb) (ih _ _ _ hb)
    | 1 =>
      refine Gy_eq (by rw [y_X11_isError]) ?_
      exact ih _ _ _ hb
    | 2 =>
      refine Gy_eq (by rw [y_X11_isError]) ?_
      exact Gy_ite (Gy_so hb) (Gy_no)
    | b + 3 =>
      exact Gy_eq (by rw [y_X11_isError]) Gy_no
theorem kg_y_X10_power {P : Nat} : ∀ (k b : Nat) (L : LV) (σ : CS), KG P σ → Gy P (y_X10_power k b L σ) := by
  intro k
  induction k with
  | zero => intro b L σ _; exact Gy_no
  | succ k ih =>
    intro b L σ hb
    match b with
    | 0 =>
      refine Gy_eq (by rw [y_X10_power]) ?_
      exact Gy_oc (kg_y_X10_isBelow _ _ _ _ hb) (fun _ h133 => Gy_ite (ih _ _ _ h133) (Gy_so h133))
    | 1 =>
      refine Gy_eq (by rw [y_X10_power]) ?_
      exact Gy_ite (ih _ _ _ hb) (Gy_ite (ih _ _ _ hb) (ih _ _ _ hb))
    | 2 =>
      refine Gy_eq (by rw [y_X10_power]) ?_
      exact Gy_so hb
    | 3 =>
      refine Gy_eq (by rw [y_X10_power]) ?_
      exact Gy_ite (Gy_so hb) (ih _ _ _ hb)
    | 4 =>
      refine Gy_eq (by rw [y_X10_power]) ?_
      exact Gy_oc (kg_y_X10_small _ _ _ _ hb) (fun _ h134 => Gy_ite (Gy_ite (ih _ _ _ h134) (ih _ _ _ h134)) (ih _ _ _ h134))
    | 5 =>
      refine Gy_eq (by rw [y_X10_power]) ?_
      exact Gy_oc (kg_y_X10_clamped _ _ _ _ hb) (fun _ h135 => Gy_ite (ih _ _ _ h135) (Gy_so h135))
    | 6 =>
      refine Gy_eq (by rw [y_X10_power]) ?_
      exact Gy_ite (ih _ _ _ hb) (Gy_no)
    | 7 =>
      refine Gy_eq (by rw [y_X10_power]) ?_
      exact Gy_ite (ih _ _ _ hb) (ih _ _ _ hb)
    | 8 =>
      refine Gy_eq (by rw [y_X10_power]) ?_
      exact Gy_oc (kg_y_X10_number _ _ _ _ hb) (fun _ h136 => ih _ _ _ h136)
    | 9 =>
      refine Gy_eq (by rw [y_X10_power]) ?_
      exact ih _ _ _ hb
    | 10 =>
      refine Gy_eq (by rw [y_X10_power]) ?_
      exact Gy_so hb
    | 11 =>
      refine Gy_eq (by rw [y_X10_power]) ?_
      exact Gy_ite (ih _ _ _ hb) (Gy_oc (kg_y_X11_isError _ _ _ _ hb) (fun _ h137 => Gy_ite (Gy_oc (kg_y_X10_product _ _ _ _ h137) (fun _ h138 => Gy_oc (kg_y_X11_isError _ _ _ _ h138) (fun _ h139 => Gy_ite (Gy_ite (Gy_oc (kg_y_X10_product _ _ _ _ h139) (fun _ h140 => ih _ _ _ h140)) (ih _ _ _ h139)) (ih _ _ _ h139)))) (ih _ _ _ h137)))
    | 12 =>
      refine Gy_eq (by rw [y_X10_power]) ?_
      exact Gy_so hb
    | 13 =>
      refine Gy_eq (by rw [y_X10_power]) ?_
      exact ih _ _ _ hb
    | b + 14 =>
      exact Gy_eq (by rw [y_X10_power]) Gy_no
theorem kg_y_X11_truth {P : Nat} : ∀ (k b : Nat) (L : LV) (σ : CS), KG P σ → Gy P (y_X11_truth k b L σ) := by
  intro k
  induction k with
  | zero => intro b L σ _; exact Gy_no
  | succ k ih =>
    intro b L σ hb
    match b with
    | 0 =>
      refine Gy_eq (by rw [y_X11_truth]) ?_
      exact Gy_ite (ih _ _ _ hb) (ih _ _ _ hb)
    | 1 =>
      refine Gy_eq (by rw [y_X11_truth]) ?_
      exact ih _ _ _ hb
    | 2 =>
      refine Gy_eq (by rw [y_X11_truth]) ?_
      exact Gy_so hb
    | b + 3 =>
      exact Gy_eq (by rw [y_X11_truth]) Gy_no
theorem kg_y_X0_holds {P : Nat} : ∀ (k b : Nat) (L : LV) (σ : CS), KG P σ → Gy P (y_X0_holds k b L σ) := by
  intro k
  induction k with
  | zero => intro b L σ _; exact Gy_no
  | succ k ih =>
    intro b L σ hb
    match b with
    | 0 =>
      refine Gy_eq (by rw [y_X0_holds]) ?_
      exact Gy_oc (kg_y_X0_placeOf _ _ _ _ hb) (fun _ h141 => Gy_oc (kg_y_X1_length _ _ _ _ h141) (fun _ h142 => Gy_ite (ih _ _ _ h142) (Gy_oc (kg_y_X1_member _ _ _ _ h142) (fun _ h143 => Gy_oc (kg_y_X1_same _ _ _ _ h143) (fun _ h144 => Gy_ite (ih _ _ _ h144) (ih _ _ _ h144))))))
    | 1 =>
      refine Gy_eq (by rw [y_X0_holds]) ?_
      exact ih _ _ _ hb
    | 2 =>
      refine Gy_eq (by rw [y_X0_holds]) ?_
      exact Gy_ite (Gy_so hb) (Gy_no)
    | b + 3 =>
      exact Gy_eq (by rw [y_X0_holds]) Gy_no
theorem kg_y_X1_byteAt {P : Nat} : ∀ (k b : Nat) (L : LV) (σ : CS), KG P σ → Gy P (y_X1_byteAt k b L σ) := by
  intro k
  induction k with
  | zero => intro b L σ _; exact Gy_no
  | succ k ih =>
    intro b L σ hb
    match b with
    | 0 =>
      refine Gy_eq (by rw [y_X1_byteAt]) ?_
      exact Gy_ite (ih _ _ _ hb) (ih _ _ _ hb)
    | 1 =>
      refine Gy_eq (by rw [y_X1_byteAt]) ?_
      exact Gy_ite (ih _ _ _ hb) (Gy_no)
    | 2 =>
      refine Gy_eq (by rw [y_X1_byteAt]) ?_
      exact Gy_so hb
    | b + 3 =>
      exact Gy_eq (by rw [y_X1_byteAt]) Gy_no
theorem kg_y_X0_standsIn {P : Nat} : ∀ (k b : Nat) (L : LV) (σ : CS), KG P σ → Gy P (y_X0_standsIn k b L σ) := by
  intro k
  induction k with
  | zero => intro b L σ _; exact Gy_no
  | succ k ih =>
    intro b L σ hb
    match b with
    | 0 =>
      refine Gy_eq (by rw [y_X0_standsIn]) ?_
      exact Gy_oc (kg_y_X1_length _ _ _ _ hb) (fun _ h145 => Gy_oc (kg_y_X1_length _ _ _ _ h145) (fun _ h146 => ih _ _ _ h146))
    | 1 =>
      refine Gy_eq (by rw [y_X0_standsIn]) ?_
      exact Gy_ite (ih _ _ _ hb) (ih _ _ _ hb)
    | 2 =>
      refine Gy_eq (by rw [y_X0_standsIn]) ?_
      exact Gy_so hb
    | 3 =>
      refine Gy_eq (by rw [y_X0_standsIn]) ?_
      exact Gy_ite (ih _ _ _ hb) (Gy_oc (kg_y_X1_byteAt _ _ _ _ hb) (fun _ h147 => Gy_oc (kg_y_X1_byteAt _ _ _ _ h147) (fun _ h148 => Gy_ite (ih _ _ _ h148) (ih _ _ _ h148))))
    | 4 =>
      refine Gy_eq (by rw [y_X0_standsIn]) ?_
      exact Gy_ite (Gy_so hb) (ih _ _ _ hb)
    | 5 =>
      refine Gy_eq (by rw [y_X0_standsIn]) ?_
      exact ih _ _ _ hb
    | b + 6 =>
      exact Gy_eq (by rw [y_X0_standsIn]) Gy_no
theorem kg_y_X0_contains {P : Nat} : ∀ (k b : Nat) (L : LV) (σ : CS), KG P σ → Gy P (y_X0_contains k b L σ) := by
  intro k
  induction k with
  | zero => intro b L σ _; exact Gy_no
  | succ k ih =>
    intro b L σ hb
    match b with
    | 0 =>
      refine Gy_eq (by rw [y_X0_contains]) ?_
      exact Gy_oc (kg_y_X1_kind _ _ _ _ hb) (fun _ h149 => Gy_ite (ih _ _ _ h149) (Gy_ite (ih _ _ _ h149) (Gy_ite (ih _ _ _ h149) (ih _ _ _ h149))))
    | 1 =>
      refine Gy_eq (by rw [y_X0_contains]) ?_
      exact Gy_oc (kg_y_X1_kind _ _ _ _ hb) (fun _ h150 => Gy_ite (Gy_oc (kg_y_X0_standsIn _ _ _ _ h150) (fun _ h151 => Gy_oc (kg_y_X11_truth _ _ _ _ h151) (fun _ h152 => ih _ _ _ h152))) (ih _ _ _ h150))
    | 2 =>
      refine Gy_eq (by rw [y_X0_contains]) ?_
      exact ih _ _ _ hb
    | 3 =>
      refine Gy_eq (by rw [y_X0_contains]) ?_
      exact Gy_oc (kg_y_X0_holds _ _ _ _ hb) (fun _ h153 => Gy_oc (kg_y_X11_truth _ _ _ _ h153) (fun _ h154 => Gy_so h154))
    | 4 =>
      refine Gy_eq (by rw [y_X0_contains]) ?_
      exact Gy_so hb
    | 5 =>
      refine Gy_eq (by rw [y_X0_contains]) ?_
      exact ih _ _ _ hb
    | 6 =>
      refine Gy_eq (by rw [y_X0_contains]) ?_
      exact Gy_so hb
    | 7 =>
      refine Gy_eq (by rw [y_X0_contains]) ?_
      exact Gy_oc (kg_y_X1_length _ _ _ _ hb) (fun _ h155 => Gy_ite (ih _ _ _ h155) (Gy_ite (Gy_ite (ih _ _ _ h155) (Gy_oc (kg_y_X1_member _ _ _ _ h155) (fun _ h156 => Gy_oc (kg_y_X1_same _ _ _ _ h156) (fun _ h157 => ih _ _ _ h157)))) (ih _ _ _ h155)))
    | 8 =>
      refine Gy_eq (by rw [y_X0_contains]) ?_
      exact Gy_oc (kg_y_X11_truth _ _ _ _ hb) (fun _ h158 => Gy_so h158)
    | b + 9 =>
      exact Gy_eq (by rw [y_X0_contains]) Gy_no
theorem kg_y_X0_isSubset {P : Nat} : ∀ (k b : Nat) (L : LV) (σ : CS), KG P σ → Gy P (y_X0_isSubset k b L σ) := by
  intro k
  induction k with
  | zero => intro b L σ _; exact Gy_no
  | succ k ih =>
    intro b L σ hb
    match b with
    | 0 =>
      refine Gy_eq (by rw [y_X0_isSubset]) ?_
      exact Gy_oc (kg_y_X1_length _ _ _ _ hb) (fun _ h159 => Gy_oc (kg_y_X1_length _ _ _ _ h159) (fun _ h160 => Gy_ite (ih _ _ _ h160) (ih _ _ _ h160)))
    | 1 =>
      refine Gy_eq (by rw [y_X0_isSubset]) ?_
      exact ih _ _ _ hb
    | 2 =>
      refine Gy_eq (by rw [y_X0_isSubset]) ?_
      exact ih _ _ _ hb
    | 3 =>
      refine Gy_eq (by rw [y_X0_isSubset]) ?_
      exact Gy_oc (kg_y_X1_length _ _ _ _ hb) (fun _ h161 => Gy_ite (ih _ _ _ h161) (Gy_ite (ih _ _ _ h161) (Gy_oc (kg_y_X1_member _ _ _ _ h161) (fun _ h162 => Gy_oc (kg_y_X0_holds _ _ _ _ h162) (fun _ h163 => ih _ _ _ h163)))))
    | 4 =>
      refine Gy_eq (by rw [y_X0_isSubset]) ?_
      exact Gy_ite (Gy_so hb) (Gy_no)
    | b + 5 =>
      exact Gy_eq (by rw [y_X0_isSubset]) Gy_no
theorem kg_y_X0_compared {P : Nat} : ∀ (k b : Nat) (L : LV) (σ : CS), KG P σ → Gy P (y_X0_compared k b L σ) := by
  intro k
  induction k with
  | zero => intro b L σ _; exact Gy_no
  | succ k ih =>
    intro b L σ hb
    match b with
    | 0 =>
      refine Gy_eq (by rw [y_X0_compared]) ?_
      exact Gy_oc (kg_y_X1_kind _ _ _ _ hb) (fun _ h164 => Gy_oc (kg_y_X1_kind _ _ _ _ h164) (fun _ h165 => Gy_ite (Gy_ite (ih _ _ _ h165) (Gy_ite (ih _ _ _ h165) (ih _ _ _ h165))) (ih _ _ _ h165)))
    | 1 =>
      refine Gy_eq (by rw [y_X0_compared]) ?_
      exact Gy_so hb
    | 2 =>
      refine Gy_eq (by rw [y_X0_compared]) ?_
      exact Gy_oc (kg_y_X1_compare _ _ _ _ hb) (fun _ h166 => Gy_ite (ih _ _ _ h166) (Gy_ite (ih _ _ _ h166) (Gy_ite (ih _ _ _ h166) (ih _ _ _ h166))))
    | 3 =>
      refine Gy_eq (by rw [y_X0_compared]) ?_
      exact Gy_ite (ih _ _ _ hb) (ih _ _ _ hb)
    | 4 =>
      refine Gy_eq (by rw [y_X0_compared]) ?_
      exact Gy_ite (ih _ _ _ hb) (ih _ _ _ hb)
    | 5 =>
      refine Gy_eq (by rw [y_X0_compared]) ?_
      exact Gy_ite (ih _ _ _ hb) (ih _ _ _ hb)
    | 6 =>
      refine Gy_eq (by rw [y_X0_compared]) ?_
      exact Gy_ite (ih _ _ _ hb) (ih _ _ _ hb)
    | 7 =>
      refine Gy_eq (by rw [y_X0_compared]) ?_
      exact ih _ _ _ hb
    | 8 =>
      refine Gy_eq (by rw [y_X0_compared]) ?_
      exact Gy_oc (kg_y_X11_truth _ _ _ _ hb) (fun _ h167 => Gy_so h167)
    | 9 =>
      refine Gy_eq (by rw [y_X0_compared]) ?_
      exact ih _ _ _ hb
    | 10 =>
      refine Gy_eq (by rw [y_X0_compared]) ?_
      exact Gy_oc (kg_y_X11_truth _ _ _ _ hb) (fun _ h168 => Gy_so h168)
    | 11 =>
      refine Gy_eq (by rw [y_X0_compared]) ?_
      exact ih _ _ _ hb
    | 12 =>
      refine Gy_eq (by rw [y_X0_compared]) ?_
      exact Gy_oc (kg_y_X11_truth _ _ _ _ hb) (fun _ h169 => Gy_so h169)
    | 13 =>
      refine Gy_eq (by rw [y_X0_compared]) ?_
      exact ih _ _ _ hb
    | 14 =>
      refine Gy_eq (by rw [y_X0_compared]) ?_
      exact Gy_oc (kg_y_X11_truth _ _ _ _ hb) (fun _ h170 => Gy_so h170)
    | b + 15 =>
      exact Gy_eq (by rw [y_X0_compared]) Gy_no
theorem kg_y_X0_binary {P : Nat} : ∀ (k b : Nat) (L : LV) (σ : CS), KG P σ → Gy P (y_X0_binary k b L σ) := by
  intro k
  induction k with
  | zero => intro b L σ _; exact Gy_no
  | succ k ih =>
    intro b L σ hb
    match b with
    | 0 =>
      refine Gy_eq (by rw [y_X0_binary]) ?_
      exact Gy_ite (ih _ _ _ hb) (Gy_ite (ih _ _ _ hb) (Gy_ite (ih _ _ _ hb) (Gy_ite (ih _ _ _ hb) (Gy_ite (ih _ _ _ hb) (Gy_ite (ih _ _ _ hb) (Gy_ite (ih _ _ _ hb) (Gy_ite (ih _ _ _ hb) (Gy_ite (ih _ _ _ hb) (Gy_ite (ih _ _ _ hb) (Gy_ite (ih _ _ _ hb) (Gy_ite (ih _ _ _ hb) (Gy_ite (ih _ _ _ hb) (Gy_ite (ih _ _ _ hb) (Gy_ite (ih _ _ _ hb) (ih _ _ _ hb)))))))))))))))
    | 1 =>
      refine Gy_eq (by rw [y_X0_binary]) ?_
      exact Gy_oc (kg_y_X0_sum _ _ _ _ hb) (fun _ h171 => Gy_so h171)
    | 2 =>
      refine Gy_eq (by rw [y_X0_binary]) ?_
      exact Gy_oc (kg_y_X0_difference _ _ _ _ hb) (fun _ h172 => Gy_so h172)
    | 3 =>
      refine Gy_eq (by rw [y_X0_binary]) ?_
      exact Gy_oc (kg_y_X0_product _ _ _ _ hb) (fun _ h173 => Gy_so h173)
    | 4 =>
      refine Gy_eq (by rw [y_X0_binary]) ?_
      exact Gy_oc (kg_y_X0_areWholes _ _ _ _ hb) (fun _ h174 => Gy_ite (ih _ _ _ h174) (Gy_ite (ih _ _ _ h174) (ih _ _ _ h174)))
    | 5 =>
      refine Gy_eq (by rw [y_X0_binary]) ?_
      exact Gy_oc (kg_y_X0_areWholes _ _ _ _ hb) (fun _ h175 => Gy_ite (ih _ _ _ h175) (Gy_oc (kg_y_X10_power _ _ _ _ h175) (fun _ h176 => ih _ _ _ h176)))
    | 6 =>
      refine Gy_eq (by rw [y_X0_binary]) ?_
      exact Gy_oc (kg_y_X1_same _ _ _ _ hb) (fun _ h177 => Gy_oc (kg_y_X11_truth _ _ _ _ h177) (fun _ h178 => Gy_so h178))
    | 7 =>
      refine Gy_eq (by rw [y_X0_binary]) ?_
      exact Gy_oc (kg_y_X1_same _ _ _ _ hb) (fun _ h179 => Gy_ite (ih _ _ _ h179) (ih _ _ _ h179))
    | 8 =>
      refine Gy_eq (by rw [y_X0_binary]) ?_
      exact Gy_oc (kg_y_X0_compared _ _ _ _ hb) (fun _ h180 => Gy_so h180)
    | 9 =>
      refine Gy_eq (by rw [y_X0_binary]) ?_
      exact Gy_oc (kg_y_X0_contains _ _ _ _ hb) (fun _ h181 => Gy_so h181)
    | 10 =>
      refine Gy_eq (by rw [y_X0_binary]) ?_
      exact Gy_oc (kg_y_X0_contains _ _ _ _ hb) (fun _ h182 => Gy_oc (kg_y_X11_isError _ _ _ _ h182) (fun _ h183 => Gy_ite (ih _ _ _ h183) (ih _ _ _ h183)))
    | 11 =>
      refine Gy_eq (by rw [y_X0_binary]) ?_
      exact Gy_oc (kg_y_X0_areSets _ _ _ _ hb) (fun _ h184 => Gy_ite (ih _ _ _ h184) (Gy_oc (kg_y_X0_isSubset _ _ _ _ h184) (fun _ h185 => Gy_oc (kg_y_X11_truth _ _ _ _ h185) (fun _ h186 => ih _ _ _ h186))))
    | 12 =>
      refine Gy_eq (by rw [y_X0_binary]) ?_
      exact ih _ _ _ hb
    | 13 =>
      refine Gy_eq (by rw [y_X0_binary]) ?_
      exact ih _ _ _ hb
    | 14 =>
      refine Gy_eq (by rw [y_X0_binary]) ?_
      exact Gy_oc (kg_y_X10_divided _ _ _ _ hb) (fun _ h187 => ih _ _ _ h187)
    | 15 =>
      refine Gy_eq (by rw [y_X0_binary]) ?_
      exact ih _ _ _ hb
    | 16 =>
      refine Gy_eq (by rw [y_X0_binary]) ?_
      exact Gy_so hb
    | 17 =>
      refine Gy_eq (by rw [y_X0_binary]) ?_
      exact ih _ _ _ hb
    | 18 =>
      refine Gy_eq (by rw [y_X0_binary]) ?_
      exact Gy_oc (kg_y_X11_truth _ _ _ _ hb) (fun _ h188 => Gy_so h188)
    | 19 =>
      refine Gy_eq (by rw [y_X0_binary]) ?_
      exact Gy_ite (ih _ _ _ hb) (ih _ _ _ hb)
    | 20 =>
      refine Gy_eq (by rw [y_X0_binary]) ?_
      exact Gy_so hb
    | 21 =>
      refine Gy_eq (by rw [y_X0_binary]) ?_
      exact ih _ _ _ hb
    | 22 =>
      refine Gy_eq (by rw [y_X0_binary]) ?_
      exact Gy_so hb
    | 23 =>
      refine Gy_eq (by rw [y_X0_binary]) ?_
      exact Gy_so hb
    | 24 =>
      refine Gy_eq (by rw [y_X0_binary]) ?_
      exact ih _ _ _ hb
    | 25 =>
      refine Gy_eq (by rw [y_X0_binary]) ?_
      exact Gy_oc (kg_y_X11_truth _ _ _ _ hb) (fun _ h189 => ih _ _ _ h189)
    | b + 26 =>
      exact Gy_eq (by rw [y_X0_binary]) Gy_no
theorem kg_y_X1_size {P : Nat} : ∀ (k b : Nat) (L : LV) (σ : CS), KG P σ → Gy P (y_X1_size k b L σ) := by
  intro k
  induction k with
  | zero => intro b L σ _; exact Gy_no
  | succ k ih =>
    intro b L σ hb
    match b with
    | 0 =>
      refine Gy_eq (by rw [y_X1_size]) ?_
      exact Gy_ite (ih _ _ _ hb) (Gy_ite (Gy_so hb) (Gy_no))
    | 1 =>
      refine Gy_eq (by rw [y_X1_size]) ?_
      exact Gy_ite (ih _ _ _ hb) (Gy_ite (Gy_ite (ih _ _ _ hb) (ih _ _ _ hb)) (ih _ _ _ hb))
    | 2 =>
      refine Gy_eq (by rw [y_X1_size]) ?_
      exact ih _ _ _ hb
    | 3 =>
      refine Gy_eq (by rw [y_X1_size]) ?_
      exact ih _ _ _ hb
    | 4 =>
      refine Gy_eq (by rw [y_X1_size]) ?_
      exact Gy_so hb
    | b + 5 =>
      exact Gy_eq (by rw [y_X1_size]) Gy_no
theorem kg_y_X0_charOf {P : Nat} : ∀ (k b : Nat) (L : LV) (σ : CS), KG P σ → Gy P (y_X0_charOf k b L σ) := by
  intro k
  induction k with
  | zero => intro b L σ _; exact Gy_no
  | succ k ih =>
    intro b L σ hb
    match b with
    | 0 =>
      refine Gy_eq (by rw [y_X0_charOf]) ?_
      exact Gy_oc (kg_y_X10_clamped _ _ _ _ hb) (fun _ h190 => Gy_ite (ih _ _ _ h190) (Gy_ite (ih _ _ _ h190) (ih _ _ _ h190)))
    | 1 =>
      refine Gy_eq (by rw [y_X0_charOf]) ?_
      exact ih _ _ _ hb
    | 2 =>
      refine Gy_eq (by rw [y_X0_charOf]) ?_
      exact Gy_so hb
    | b + 3 =>
      exact Gy_eq (by rw [y_X0_charOf]) Gy_no
theorem kg_y_X0_codeOf {P : Nat} : ∀ (k b : Nat) (L : LV) (σ : CS), KG P σ → Gy P (y_X0_codeOf k b L σ) := by
  intro k
  induction k with
  | zero => intro b L σ _; exact Gy_no
  | succ k ih =>
    intro b L σ hb
    match b with
    | 0 =>
      refine Gy_eq (by rw [y_X0_codeOf]) ?_
      exact Gy_oc (kg_y_X1_length _ _ _ _ hb) (fun _ h191 => Gy_ite (Gy_oc (kg_y_X1_byteAt _ _ _ _ h191) (fun _ h192 => Gy_oc (kg_y_X10_small _ _ _ _ h192) (fun _ h193 => ih _ _ _ h193))) (ih _ _ _ h191))
    | 1 =>
      refine Gy_eq (by rw [y_X0_codeOf]) ?_
      exact ih _ _ _ hb
    | 2 =>
      refine Gy_eq (by rw [y_X0_codeOf]) ?_
      exact Gy_so hb
    | b + 3 =>
      exact Gy_eq (by rw [y_X0_codeOf]) Gy_no
theorem kg_y_X0_reversed {P : Nat} : ∀ (k b : Nat) (L : LV) (σ : CS), KG P σ → Gy P (y_X0_reversed k b L σ) := by
  intro k
  induction k with
  | zero => intro b L σ _; exact Gy_no
  | succ k ih =>
    intro b L σ hb
    match b with
    | 0 =>
      refine Gy_eq (by rw [y_X0_reversed]) ?_
      exact Gy_oc (kg_y_X1_length _ _ _ _ hb) (fun _ h194 => Gy_ite (ih _ _ _ h194) (ih _ _ _ h194))
    | 1 =>
      refine Gy_eq (by rw [y_X0_reversed]) ?_
      exact ih _ _ _ hb
    | 2 =>
      refine Gy_eq (by rw [y_X0_reversed]) ?_
      exact Gy_ite (ih _ _ _ hb) (Gy_ite (ih _ _ _ hb) (Gy_oc (kg_y_X1_byteAt _ _ _ _ hb) (fun _ h195 => Gy_ite (ih _ _ _ (KG_o h195 rfl)) (Gy_no))))
    | 3 =>
      refine Gy_eq (by rw [y_X0_reversed]) ?_
      exact Gy_ite (ih _ _ _ hb) (Gy_ite (ih _ _ _ hb) (Gy_oc (kg_y_X1_member _ _ _ _ hb) (fun _ h196 => Gy_ite (ih _ _ _ (KG_o h196 rfl)) (Gy_no))))
    | 4 =>
      refine Gy_eq (by rw [y_X0_reversed]) ?_
      exact Gy_oc (kg_y_X1_makeString__a15 _ _ _ _ hb) (fun _ h197 => Gy_so h197)
    | 5 =>
      refine Gy_eq (by rw [y_X0_reversed]) ?_
      exact Gy_oc (kg_y_X1_makeTuple__a16 _ _ _ _ hb) (fun _ h198 => Gy_so h198)
    | b + 6 =>
      exact Gy_eq (by rw [y_X0_reversed]) Gy_no
theorem kg_y_X0_domain {P : Nat} : ∀ (k b : Nat) (L : LV) (σ : CS), KG P σ → Gy P (y_X0_domain k b L σ) := by
  intro k
  induction k with
  | zero => intro b L σ _; exact Gy_no
  | succ k ih =>
    intro b L σ hb
    match b with
    | 0 =>
      refine Gy_eq (by rw [y_X0_domain]) ?_
      exact ih _ _ _ hb
    | 1 =>
      refine Gy_eq (by rw [y_X0_domain]) ?_
      exact Gy_oc (kg_y_X1_length _ _ _ _ hb) (fun _ h199 => Gy_ite (ih _ _ _ h199) (Gy_ite (ih _ _ _ h199) (Gy_oc (kg_y_X1_member _ _ _ _ h199) (fun _ h200 => Gy_oc (kg_y_X1_member _ _ _ _ h200) (fun _ h201 => Gy_ite (Gy_so h201) (ih _ _ _ h201))))))
    | 2 =>
      refine Gy_eq (by rw [y_X0_domain]) ?_
      exact Gy_oc (kg_y_X1_makeRow__a16 _ _ _ _ hb) (fun _ h202 => Gy_so h202)
    | 3 =>
      refine Gy_eq (by rw [y_X0_domain]) ?_
      exact Gy_ite (ih _ _ _ hb) (Gy_ite (Gy_oc (kg_y_X1_same _ _ _ _ hb) (fun _ h203 => Gy_ite (ih _ _ _ h203) (ih _ _ _ h203))) (Gy_no))
    | 4 =>
      refine Gy_eq (by rw [y_X0_domain]) ?_
      exact Gy_ite (ih _ _ _ (KG_o hb rfl)) (Gy_no)
    | 5 =>
      refine Gy_eq (by rw [y_X0_domain]) ?_
      exact ih _ _ _ hb
    | b + 6 =>
      exact Gy_eq (by rw [y_X0_domain]) Gy_no
theorem kg_y_X0_insert__a16 {P : Nat} : ∀ (k b : Nat) (L : LV) (σ : CS), KG P σ → Gy P (y_X0_insert__a16 k b L σ) := by
  intro k
  induction k with
  | zero => intro b L σ _; exact Gy_no
  | succ k ih =>
    intro b L σ hb
    match b with
    | 0 =>
      refine Gy_eq (by rw [y_X0_insert__a16]) ?_
      exact Gy_ite (ih _ _ _ hb) (Gy_ite (Gy_oc (kg_y_X1_compare _ _ _ _ hb) (fun _ h204 => Gy_ite (ih _ _ _ h204) (ih _ _ _ h204))) (Gy_no))
    | 1 =>
      refine Gy_eq (by rw [y_X0_insert__a16]) ?_
      exact ih _ _ _ hb
    | 2 =>
      refine Gy_eq (by rw [y_X0_insert__a16]) ?_
      exact Gy_ite (ih _ _ _ hb) (Gy_ite (ih _ _ _ hb) (Gy_ite (Gy_oc (kg_y_X1_compare _ _ _ _ hb) (fun _ h205 => Gy_ite (ih _ _ _ h205) (ih _ _ _ h205))) (Gy_no)))
    | 3 =>
      refine Gy_eq (by rw [y_X0_insert__a16]) ?_
      exact Gy_ite (ih _ _ _ hb) (Gy_ite (Gy_oc (kg_y_X1_same _ _ _ _ hb) (fun _ h206 => Gy_ite (ih _ _ _ h206) (Gy_so h206))) (Gy_no))
    | 4 =>
      refine Gy_eq (by rw [y_X0_insert__a16]) ?_
      exact ih _ _ _ hb
    | 5 =>
      refine Gy_eq (by rw [y_X0_insert__a16]) ?_
      exact ih _ _ _ hb
    | 6 =>
      refine Gy_eq (by rw [y_X0_insert__a16]) ?_
      exact Gy_ite (Gy_ite (Gy_so (KG_o (KG_o hb rfl) rfl)) (Gy_no)) (Gy_no)
    | b + 7 =>
      exact Gy_eq (by rw [y_X0_insert__a16]) Gy_no
theorem kg_y_X0_range {P : Nat} : ∀ (k b : Nat) (L : LV) (σ : CS), KG P σ → Gy P (y_X0_range k b L σ) := by
  intro k
  induction k with
  | zero => intro b L σ _; exact Gy_no
  | succ k ih =>
    intro b L σ hb
    match b with
    | 0 =>
      refine Gy_eq (by rw [y_X0_range]) ?_
      exact ih _ _ _ hb
    | 1 =>
      refine Gy_eq (by rw [y_X0_range]) ?_
      exact Gy_oc (kg_y_X1_length _ _ _ _ hb) (fun _ h207 => Gy_ite (ih _ _ _ h207) (Gy_ite (ih _ _ _ h207) (Gy_oc (kg_y_X1_member _ _ _ _ h207) (fun _ h208 => Gy_oc (kg_y_X1_member _ _ _ _ h208) (fun _ h209 => Gy_oc (kg_y_X0_insert__a16 _ _ _ _ h209) (fun _ h210 => Gy_ite (ih _ _ _ h210) (ih _ _ _ h210)))))))
    | 2 =>
      refine Gy_eq (by rw [y_X0_range]) ?_
      exact Gy_oc (kg_y_X1_makeRow__a16 _ _ _ _ hb) (fun _ h211 => Gy_so h211)
    | 3 =>
      refine Gy_eq (by rw [y_X0_range]) ?_
      exact ih _ _ _ hb
    | b + 4 =>
      exact Gy_eq (by rw [y_X0_range]) Gy_no
theorem kg_y_X0_highest {P : Nat} : ∀ (k b : Nat) (L : LV) (σ : CS), KG P σ → Gy P (y_X0_highest k b L σ) := by
  intro k
  induction k with
  | zero => intro b L σ _; exact Gy_no
  | succ k ih =>
    intro b L σ hb
    match b with
    | 0 =>
      refine Gy_eq (by rw [y_X0_highest]) ?_
      exact ih _ _ _ hb
    | 1 =>
      refine Gy_eq (by rw [y_X0_highest]) ?_
      exact Gy_ite (ih _ _ _ hb) (Gy_ite (ih _ _ _ hb) (ih _ _ _ hb))
    | 2 =>
      refine Gy_eq (by rw [y_X0_highest]) ?_
      exact Gy_so hb
    | 3 =>
      refine Gy_eq (by rw [y_X0_highest]) ?_
      exact ih _ _ _ hb
    | 4 =>
      refine Gy_eq (by rw [y_X0_highest]) ?_
      exact ih _ _ _ hb
    | b + 5 =>
      exact Gy_eq (by rw [y_X0_highest]) Gy_no
theorem kg_y_X1_makeRow__a17 {P : Nat} : ∀ (k b : Nat) (L : LV) (σ : CS), KG P σ → Gy P (y_X1_makeRow__a17 k b L σ) := by
  intro k
  induction k with
  | zero => intro b L σ _; exact Gy_no
  | succ k ih =>
    intro b L σ hb
    match b with
    | 0 =>
      refine Gy_eq (by rw [y_X1_makeRow__a17]) ?_
      exact Gy_ite (ih _ _ _ hb) (Gy_ite (ih _ _ _ hb) (ih _ _ _ hb))
    | 1 =>
      refine Gy_eq (by rw [y_X1_makeRow__a17]) ?_
      exact Gy_ite (ih _ _ _ hb) (ih _ _ _ hb)
    | 2 =>
      refine Gy_eq (by rw [y_X1_makeRow__a17]) ?_
      exact ih _ _ _ hb
    | 3 =>
      refine Gy_eq (by rw [y_X1_makeRow__a17]) ?_
      exact Gy_so hb
    | 4 =>
      refine Gy_eq (by rw [y_X1_makeRow__a17]) ?_
      exact ih _ _ _ hb
    | 5 =>
      refine Gy_eq (by rw [y_X1_makeRow__a17]) ?_
      exact ih _ _ _ hb
    | 6 =>
      refine Gy_eq (by rw [y_X1_makeRow__a17]) ?_
      exact Gy_ite (ih _ _ _ hb) (Gy_ite (ih _ _ _ hb) (Gy_ite (Gy_ite (ih _ _ _ hb) (Gy_ite (Gy_ite (ih _ _ _ hb) (ih _ _ _ hb)) (Gy_no))) (Gy_no)))
    | 7 =>
      refine Gy_eq (by rw [y_X1_makeRow__a17]) ?_
      exact Gy_ite (ih _ _ _ hb) (Gy_ite (ih _ _ _ hb) (ih _ _ _ hb))
    | 8 =>
      refine Gy_eq (by rw [y_X1_makeRow__a17]) ?_
      exact Gy_ite (ih _ _ _ hb) (Gy_ite (Gy_ite (ih _ _ _ hb) (ih _ _ _ hb)) (ih _ _ _ hb))
    | 9 =>
      refine Gy_eq (by rw [y_X1_makeRow__a17]) ?_
      exact ih _ _ _ hb
    | 10 =>
      refine Gy_eq (by rw [y_X1_makeRow__a17]) ?_
      exact Gy_ite (ih _ _ _ hb) (Gy_ite (ih _ _ _ hb) (ih _ _ _ hb))
    | 11 =>
      refine Gy_eq (by rw [y_X1_makeRow__a17]) ?_
      exact Gy_so hb
    | 12 =>
      refine Gy_eq (by rw [y_X1_makeRow__a17]) ?_
      exact Gy_ite (ih _ _ _ hb) (Gy_so hb)
    | 13 =>
      refine Gy_eq (by rw [y_X1_makeRow__a17]) ?_
      exact ih _ _ _ hb
    | 14 =>
      refine Gy_eq (by rw [y_X1_makeRow__a17]) ?_
      exact ih _ _ _ hb
    | 15 =>
      refine Gy_eq (by rw [y_X1_makeRow__a17]) ?_
      exact ih _ _ _ hb
    | 16 =>
      refine Gy_eq (by rw [y_X1_makeRow__a17]) ?_
      exact ih _ _ _ hb
    | 17 =>
      refine Gy_eq (by rw [y_X1_makeRow__a17]) ?_
      exact Gy_ite (ih _ _ _ (KG_I (by decide) hb)) (ih _ _ _ (KG_I (by decide) hb))
    | 18 =>
      refine Gy_eq (by rw [y_X1_makeRow__a17]) ?_
      exact ih _ _ _ hb
    | 19 =>
      refine Gy_eq (by rw [y_X1_makeRow__a17]) ?_
      exact ih _ _ _ hb
    | 20 =>
      refine Gy_eq (by rw [y_X1_makeRow__a17]) ?_
      exact ih _ _ _ hb
    | 21 =>
      refine Gy_eq (by rw [y_X1_makeRow__a17]) ?_
      exact Gy_ite (Gy_ite (Gy_so (KG_o (KG_o hb rfl) rfl)) (Gy_no)) (Gy_no)
    | b + 22 =>
      exact Gy_eq (by rw [y_X1_makeRow__a17]) Gy_no
theorem kg_y_X0_subsets {P : Nat} : ∀ (k b : Nat) (L : LV) (σ : CS), KG P σ → Gy P (y_X0_subsets k b L σ) := by
  intro k
  induction k with
  | zero => intro b L σ _; exact Gy_no
  | succ k ih =>
    intro b L σ hb
    match b with
    | 0 =>
      refine Gy_eq (by rw [y_X0_subsets]) ?_
      exact Gy_oc (kg_y_X1_length _ _ _ _ hb) (fun _ h212 => Gy_ite (ih _ _ _ h212) (Gy_oc (kg_y_X1_size _ _ _ _ h212) (fun _ h213 => Gy_ite (ih _ _ _ h213) (ih _ _ _ h213))))
    | 1 =>
      refine Gy_eq (by rw [y_X0_subsets]) ?_
      exact Gy_so hb
    | 2 =>
      refine Gy_eq (by rw [y_X0_subsets]) ?_
      exact Gy_ite (ih _ _ _ (KG_o hb rfl)) (Gy_no)
    | 3 =>
      refine Gy_eq (by rw [y_X0_subsets]) ?_
      exact Gy_ite (ih _ _ _ hb) (Gy_ite (Gy_oc (kg_y_X0_highest _ _ _ _ hb) (fun _ h214 => ih _ _ _ h214)) (ih _ _ _ hb))
    | 4 =>
      refine Gy_eq (by rw [y_X0_subsets]) ?_
      exact Gy_oc (kg_y_X1_makeRow__a16 _ _ _ _ hb) (fun _ h215 => Gy_so h215)
    | 5 =>
      refine Gy_eq (by rw [y_X0_subsets]) ?_
      exact Gy_oc (kg_y_X1_member _ _ _ _ hb) (fun _ h216 => Gy_ite (Gy_oc (kg_y_X1_makeRow__a17 _ _ _ _ (KG_o h216 rfl)) (fun _ h217 => Gy_ite (Gy_ite (Gy_oc (kg_y_X11_isError _ _ _ _ (KG_o h217 rfl)) (fun _ h218 => ih _ _ _ h218)) (Gy_no)) (Gy_no))) (Gy_no))
    | 6 =>
      refine Gy_eq (by rw [y_X0_subsets]) ?_
      exact Gy_ite (ih _ _ _ hb) (Gy_ite (Gy_so hb) (Gy_no))
    | 7 =>
      refine Gy_eq (by rw [y_X0_subsets]) ?_
      exact ih _ _ _ hb
    | b + 8 =>
      exact Gy_eq (by rw [y_X0_subsets]) Gy_no
theorem kg_y_X0_larger {P : Nat} : ∀ (k b : Nat) (L : LV) (σ : CS), KG P σ → Gy P (y_X0_larger k b L σ) := by
  intro k
  induction k with
  | zero => intro b L σ _; exact Gy_no
  | succ k ih =>
    intro b L σ hb
    match b with
    | 0 =>
      refine Gy_eq (by rw [y_X0_larger]) ?_
      exact Gy_oc (kg_y_X0_compared _ _ _ _ hb) (fun _ h219 => Gy_oc (kg_y_X11_isError _ _ _ _ h219) (fun _ h220 => Gy_ite (ih _ _ _ h220) (Gy_so h220)))
    | 1 =>
      refine Gy_eq (by rw [y_X0_larger]) ?_
      exact Gy_ite (ih _ _ _ hb) (ih _ _ _ hb)
    | 2 =>
      refine Gy_eq (by rw [y_X0_larger]) ?_
      exact ih _ _ _ hb
    | 3 =>
      refine Gy_eq (by rw [y_X0_larger]) ?_
      exact Gy_ite (ih _ _ _ hb) (ih _ _ _ hb)
    | 4 =>
      refine Gy_eq (by rw [y_X0_larger]) ?_
      exact ih _ _ _ hb
    | 5 =>
      refine Gy_eq (by rw [y_X0_larger]) ?_
      exact Gy_so hb
    | b + 6 =>
      exact Gy_eq (by rw [y_X0_larger]) Gy_no
theorem kg_y_X0_smallSteps {P : Nat} : ∀ (k b : Nat) (L : LV) (σ : CS), KG P σ → Gy P (y_X0_smallSteps k b L σ) := by
  intro k
  induction k with
  | zero => intro b L σ _; exact Gy_no
  | succ k ih =>
    intro b L σ hb
    match b with
    | 0 =>
      refine Gy_eq (by rw [y_X0_smallSteps]) ?_
      exact ih _ _ _ hb
    | 1 =>
      refine Gy_eq (by rw [y_X0_smallSteps]) ?_
      exact Gy_ite (ih _ _ _ hb) (Gy_ite (ih _ _ _ hb) (Gy_ite (ih _ _ _ hb) (Gy_ite (ih _ _ _ hb) (ih _ _ _ hb))))
    | 2 =>
      refine Gy_eq (by rw [y_X0_smallSteps]) ?_
      exact Gy_so hb
    | 3 =>
      refine Gy_eq (by rw [y_X0_smallSteps]) ?_
      exact Gy_ite (ih _ _ _ hb) (ih _ _ _ hb)
    | 4 =>
      refine Gy_eq (by rw [y_X0_smallSteps]) ?_
      exact Gy_oc (kg_y_X10_small _ _ _ _ hb) (fun _ h221 => Gy_ite (ih _ _ _ (KG_o h221 rfl)) (Gy_no))
    | b + 5 =>
      exact Gy_eq (by rw [y_X0_smallSteps]) Gy_no
theorem kg_y_X0_progression {P : Nat} : ∀ (k b : Nat) (L : LV) (σ : CS), KG P σ → Gy P (y_X0_progression k b L σ) := by
  intro k
  induction k with
  | zero => intro b L σ _; exact Gy_no
  | succ k ih =>
    intro b L σ hb
    match b with
    | 0 =>
      refine Gy_eq (by rw [y_X0_progression]) ?_
      exact Gy_oc (kg_y_X0_areWholes _ _ _ _ hb) (fun _ h222 => Gy_ite (ih _ _ _ h222) (Gy_ite (ih _ _ _ h222) (Gy_oc (kg_y_X1_kind _ _ _ _ h222) (fun _ h223 => Gy_ite (ih _ _ _ h223) (ih _ _ _ h223)))))
    | 1 =>
      refine Gy_eq (by rw [y_X0_progression]) ?_
      exact Gy_so hb
    | 2 =>
      refine Gy_eq (by rw [y_X0_progression]) ?_
      exact Gy_ite (Gy_oc (kg_y_X10_added _ _ _ _ hb) (fun _ h224 => ih _ _ _ h224)) (ih _ _ _ hb)
    | 3 =>
      refine Gy_eq (by rw [y_X0_progression]) ?_
      exact ih _ _ _ hb
    | 4 =>
      refine Gy_eq (by rw [y_X0_progression]) ?_
      exact Gy_oc (kg_y_X11_isError _ _ _ _ hb) (fun _ h225 => Gy_ite (ih _ _ _ h225) (ih _ _ _ h225))
    | 5 =>
      refine Gy_eq (by rw [y_X0_progression]) ?_
      exact Gy_oc (kg_y_X1_compare _ _ _ _ hb) (fun _ h226 => ih _ _ _ h226)
    | 6 =>
      refine Gy_eq (by rw [y_X0_progression]) ?_
      exact Gy_oc (kg_y_X11_isError _ _ _ _ hb) (fun _ h227 => Gy_ite (ih _ _ _ h227) (ih _ _ _ h227))
    | 7 =>
      refine Gy_eq (by rw [y_X0_progression]) ?_
      exact Gy_oc (kg_y_X10_added _ _ _ _ hb) (fun _ h228 => ih _ _ _ h228)
    | 8 =>
      refine Gy_eq (by rw [y_X0_progression]) ?_
      exact Gy_ite (ih _ _ _ hb) (Gy_ite (ih _ _ _ hb) (Gy_ite (ih _ _ _ hb) (Gy_oc (kg_y_X11_isError _ _ _ _ hb) (fun _ h229 => Gy_ite (Gy_oc (kg_y_X10_number _ _ _ _ h229) (fun _ h230 => Gy_oc (kg_y_X10_number _ _ _ _ h230) (fun _ h231 => ih _ _ _ h231))) (ih _ _ _ h229)))))
    | 9 =>
      refine Gy_eq (by rw [y_X0_progression]) ?_
      exact ih _ _ _ hb
    | 10 =>
      refine Gy_eq (by rw [y_X0_progression]) ?_
      exact Gy_oc (kg_y_X10_number _ _ _ _ hb) (fun _ h232 => Gy_oc (kg_y_X0_smallSteps _ _ _ _ h232) (fun _ h233 => ih _ _ _ h233))
    | 11 =>
      refine Gy_eq (by rw [y_X0_progression]) ?_
      exact Gy_ite (ih _ _ _ hb) (Gy_ite (ih _ _ _ hb) (Gy_ite (ih _ _ _ hb) (Gy_oc (kg_y_X11_isError _ _ _ _ hb) (fun _ h234 => Gy_ite (Gy_oc (kg_y_X1_compare _ _ _ _ h234) (fun _ h235 => Gy_ite (ih _ _ _ h235) (Gy_oc (kg_y_X1_size _ _ _ _ h235) (fun _ h236 => Gy_ite (Gy_ite (ih _ _ _ (KG_o h236 rfl)) (ih _ _ _ (KG_o h236 rfl))) (Gy_no))))) (ih _ _ _ h234)))))
    | 12 =>
      refine Gy_eq (by rw [y_X0_progression]) ?_
      exact Gy_ite (ih _ _ _ hb) (Gy_so hb)
    | 13 =>
      refine Gy_eq (by rw [y_X0_progression]) ?_
      exact Gy_oc (kg_y_X11_isError _ _ _ _ hb) (fun _ h237 => Gy_ite (ih _ _ _ h237) (ih _ _ _ h237))
    | 14 =>
      refine Gy_eq (by rw [y_X0_progression]) ?_
      exact ih _ _ _ hb
    | 15 =>
      refine Gy_eq (by rw [y_X0_progression]) ?_
      exact Gy_ite (Gy_oc (kg_y_X1_makeTuple__a16 _ _ _ _ hb) (fun _ h238 => Gy_so h238)) (ih _ _ _ hb)
    | 16 =>
      refine Gy_eq (by rw [y_X0_progression]) ?_
      exact Gy_oc (kg_y_X10_added _ _ _ _ hb) (fun _ h239 => ih _ _ _ h239)
    | 17 =>
      refine Gy_eq (by rw [y_X0_progression]) ?_
      exact ih _ _ _ hb
    | 18 =>
      refine Gy_eq (by rw [y_X0_progression]) ?_
      exact Gy_ite (ih _ _ _ hb) (Gy_ite (Gy_no) (Gy_ite (ih _ _ _ hb) (Gy_ite (Gy_ite (Gy_ite (Gy_ite (ih _ _ _ (KG_o (KG_o hb rfl) rfl)) (Gy_no)) (Gy_no)) (Gy_no)) (Gy_no))))
    | 19 =>
      refine Gy_eq (by rw [y_X0_progression]) ?_
      exact Gy_oc (kg_y_X1_makeRow__a16 _ _ _ _ hb) (fun _ h240 => Gy_so h240)
    | b + 20 =>
      exact Gy_eq (by rw [y_X0_progression]) Gy_no
theorem kg_y_X1_taken {P : Nat} : ∀ (k b : Nat) (L : LV) (σ : CS), KG P σ → Gy P (y_X1_taken k b L σ) := by
  intro k
  induction k with
  | zero => intro b L σ _; exact Gy_no
  | succ k ih =>
    intro b L σ hb
    match b with
    | 0 =>
      refine Gy_eq (by rw [y_X1_taken]) ?_
      exact Gy_oc (kg_y_X1_kind _ _ _ _ hb) (fun _ h241 => Gy_ite (Gy_oc (kg_y_X1_byteAt _ _ _ _ h241) (fun _ h242 => ih _ _ _ h242)) (ih _ _ _ h241))
    | 1 =>
      refine Gy_eq (by rw [y_X1_taken]) ?_
      exact Gy_oc (kg_y_X1_member _ _ _ _ hb) (fun _ h243 => ih _ _ _ h243)
    | 2 =>
      refine Gy_eq (by rw [y_X1_taken]) ?_
      exact Gy_so hb
    | b + 3 =>
      exact Gy_eq (by rw [y_X1_taken]) Gy_no
theorem kg_y_X1_flagged {P : Nat} : ∀ (k b : Nat) (L : LV) (σ : CS), KG P σ → Gy P (y_X1_flagged k b L σ) := by
  intro k
  induction k with
  | zero => intro b L σ _; exact Gy_no
  | succ k ih =>
    intro b L σ hb
    match b with
    | 0 =>
      refine Gy_eq (by rw [y_X1_flagged]) ?_
      exact Gy_ite (ih _ _ _ hb) (Gy_ite (Gy_ite (ih _ _ _ hb) (ih _ _ _ hb)) (Gy_no))
    | 1 =>
      refine Gy_eq (by rw [y_X1_flagged]) ?_
      exact ih _ _ _ hb
    | 2 =>
      refine Gy_eq (by rw [y_X1_flagged]) ?_
      exact Gy_ite (Gy_so hb) (Gy_no)
    | b + 3 =>
      exact Gy_eq (by rw [y_X1_flagged]) Gy_no
theorem kg_y_X1_isMap {P : Nat} : ∀ (k b : Nat) (L : LV) (σ : CS), KG P σ → Gy P (y_X1_isMap k b L σ) := by
  intro k
  induction k with
  | zero => intro b L σ _; exact Gy_no
  | succ k ih =>
    intro b L σ hb
    match b with
    | 0 =>
      refine Gy_eq (by rw [y_X1_isMap]) ?_
      exact Gy_oc (kg_y_X1_kind _ _ _ _ hb) (fun _ h244 => Gy_ite (Gy_oc (kg_y_X1_flagged _ _ _ _ h244) (fun _ h245 => Gy_ite (ih _ _ _ h245) (ih _ _ _ h245))) (ih _ _ _ h244))
    | 1 =>
      refine Gy_eq (by rw [y_X1_isMap]) ?_
      exact ih _ _ _ hb
    | 2 =>
      refine Gy_eq (by rw [y_X1_isMap]) ?_
      exact Gy_ite (Gy_so hb) (Gy_no)
    | b + 3 =>
      exact Gy_eq (by rw [y_X1_isMap]) Gy_no
theorem kg_y_X0_pairsFrom {P : Nat} : ∀ (k b : Nat) (L : LV) (σ : CS), KG P σ → Gy P (y_X0_pairsFrom k b L σ) := by
  intro k
  induction k with
  | zero => intro b L σ _; exact Gy_no
  | succ k ih =>
    intro b L σ hb
    match b with
    | 0 =>
      refine Gy_eq (by rw [y_X0_pairsFrom]) ?_
      exact Gy_oc (kg_y_X1_length _ _ _ _ hb) (fun _ h246 => ih _ _ _ h246)
    | 1 =>
      refine Gy_eq (by rw [y_X0_pairsFrom]) ?_
      exact Gy_ite (ih _ _ _ hb) (Gy_ite (ih _ _ _ hb) (Gy_oc (kg_y_X1_member _ _ _ _ hb) (fun _ h247 => Gy_oc (kg_y_X1_member _ _ _ _ h247) (fun _ h248 => Gy_oc (kg_y_X1_compare _ _ _ _ h248) (fun _ h249 => Gy_ite (ih _ _ _ h249) (ih _ _ _ h249))))))
    | 2 =>
      refine Gy_eq (by rw [y_X0_pairsFrom]) ?_
      exact Gy_so hb
    | 3 =>
      refine Gy_eq (by rw [y_X0_pairsFrom]) ?_
      exact ih _ _ _ hb
    | 4 =>
      refine Gy_eq (by rw [y_X0_pairsFrom]) ?_
      exact ih _ _ _ hb
    | b + 5 =>
      exact Gy_eq (by rw [y_X0_pairsFrom]) Gy_no
theorem kg_y_X0_pairsTo {P : Nat} : ∀ (k b : Nat) (L : LV) (σ : CS), KG P σ → Gy P (y_X0_pairsTo k b L σ) := by
  intro k
  induction k with
  | zero => intro b L σ _; exact Gy_no
  | succ k ih =>
    intro b L σ hb
    match b with
    | 0 =>
      refine Gy_eq (by rw [y_X0_pairsTo]) ?_
      exact ih _ _ _ hb
    | 1 =>
      refine Gy_eq (by rw [y_X0_pairsTo]) ?_
      exact Gy_oc (kg_y_X1_length _ _ _ _ hb) (fun _ h250 => Gy_ite (ih _ _ _ h250) (Gy_oc (kg_y_X1_member _ _ _ _ h250) (fun _ h251 => Gy_oc (kg_y_X1_member _ _ _ _ h251) (fun _ h252 => Gy_oc (kg_y_X1_compare _ _ _ _ h252) (fun _ h253 => Gy_ite (ih _ _ _ h253) (ih _ _ _ h253))))))
    | 2 =>
      refine Gy_eq (by rw [y_X0_pairsTo]) ?_
      exact Gy_so hb
    | b + 3 =>
      exact Gy_eq (by rw [y_X0_pairsTo]) Gy_no
theorem kg_y_X0_memberAt {P : Nat} : ∀ (k b : Nat) (L : LV) (σ : CS), KG P σ → Gy P (y_X0_memberAt k b L σ) := by
  intro k
  induction k with
  | zero => intro b L σ _; exact Gy_no
  | succ k ih =>
    intro b L σ hb
    match b with
    | 0 =>
      refine Gy_eq (by rw [y_X0_memberAt]) ?_
      exact Gy_oc (kg_y_X1_kind _ _ _ _ hb) (fun _ h254 => Gy_ite (ih _ _ _ h254) (Gy_ite (ih _ _ _ h254) (ih _ _ _ h254)))
    | 1 =>
      refine Gy_eq (by rw [y_X0_memberAt]) ?_
      exact Gy_oc (kg_y_X1_kind _ _ _ _ hb) (fun _ h255 => Gy_ite (ih _ _ _ h255) (Gy_so h255))
    | 2 =>
      refine Gy_eq (by rw [y_X0_memberAt]) ?_
      exact Gy_oc (kg_y_X1_isMap _ _ _ _ hb) (fun _ h256 => Gy_ite (Gy_so h256) (ih _ _ _ h256))
    | 3 =>
      refine Gy_eq (by rw [y_X0_memberAt]) ?_
      exact Gy_oc (kg_y_X10_clamped _ _ _ _ hb) (fun _ h257 => Gy_ite (ih _ _ _ h257) (Gy_so h257))
    | 4 =>
      refine Gy_eq (by rw [y_X0_memberAt]) ?_
      exact Gy_oc (kg_y_X0_pairsFrom _ _ _ _ hb) (fun _ h258 => Gy_oc (kg_y_X0_pairsTo _ _ _ _ h258) (fun _ h259 => Gy_ite (Gy_oc (kg_y_X1_member _ _ _ _ h259) (fun _ h260 => Gy_oc (kg_y_X1_member _ _ _ _ h260) (fun _ h261 => ih _ _ _ h261))) (ih _ _ _ h259)))
    | 5 =>
      refine Gy_eq (by rw [y_X0_memberAt]) ?_
      exact Gy_oc (kg_y_X1_length _ _ _ _ hb) (fun _ h262 => Gy_ite (ih _ _ _ h262) (Gy_oc (kg_y_X1_taken _ _ _ _ h262) (fun _ h263 => ih _ _ _ h263)))
    | 6 =>
      refine Gy_eq (by rw [y_X0_memberAt]) ?_
      exact ih _ _ _ hb
    | 7 =>
      refine Gy_eq (by rw [y_X0_memberAt]) ?_
      exact Gy_so hb
    | 8 =>
      refine Gy_eq (by rw [y_X0_memberAt]) ?_
      exact ih _ _ _ hb
    | 9 =>
      refine Gy_eq (by rw [y_X0_memberAt]) ?_
      exact Gy_so hb
    | b + 10 =>
      exact Gy_eq (by rw [y_X0_memberAt]) Gy_no
theorem kg_y_X0_rowError {P : Nat} : ∀ (k b : Nat) (L : LV) (σ : CS), KG P σ → Gy P (y_X0_rowError k b L σ) := by
  intro k
  induction k with
  | zero => intro b L σ _; exact Gy_no
  | succ k ih =>
    intro b L σ hb
    match b with
    | 0 =>
      refine Gy_eq (by rw [y_X0_rowError]) ?_
      exact Gy_oc (kg_y_X1_kind _ _ _ _ hb) (fun _ h264 => Gy_ite (ih _ _ _ h264) (Gy_ite (ih _ _ _ h264) (ih _ _ _ h264)))
    | 1 =>
      refine Gy_eq (by rw [y_X0_rowError]) ?_
      exact Gy_oc (kg_y_X1_kind _ _ _ _ hb) (fun _ h265 => Gy_ite (Gy_oc (kg_y_X1_kind _ _ _ _ h265) (fun _ h266 => Gy_ite (ih _ _ _ h266) (ih _ _ _ h266))) (ih _ _ _ h265))
    | 2 =>
      refine Gy_eq (by rw [y_X0_rowError]) ?_
      exact Gy_so hb
    | 3 =>
      refine Gy_eq (by rw [y_X0_rowError]) ?_
      exact Gy_oc (kg_y_X10_clamped _ _ _ _ hb) (fun _ h267 => Gy_oc (kg_y_X10_clamped _ _ _ _ h267) (fun _ h268 => Gy_ite (ih _ _ _ h268) (Gy_ite (ih _ _ _ h268) (Gy_oc (kg_y_X1_length _ _ _ _ h268) (fun _ h269 => Gy_ite (ih _ _ _ h269) (ih _ _ _ h269))))))
    | 4 =>
      refine Gy_eq (by rw [y_X0_rowError]) ?_
      exact ih _ _ _ hb
    | 5 =>
      refine Gy_eq (by rw [y_X0_rowError]) ?_
      exact Gy_so hb
    | b + 6 =>
      exact Gy_eq (by rw [y_X0_rowError]) Gy_no
theorem kg_y_X0_slice {P : Nat} : ∀ (k b : Nat) (L : LV) (σ : CS), KG P σ → Gy P (y_X0_slice k b L σ) := by
  intro k
  induction k with
  | zero => intro b L σ _; exact Gy_no
  | succ k ih =>
    intro b L σ hb
    match b with
    | 0 =>
      refine Gy_eq (by rw [y_X0_slice]) ?_
      exact Gy_oc (kg_y_X0_rowError _ _ _ _ hb) (fun _ h270 => Gy_ite (ih _ _ _ h270) (Gy_so h270))
    | 1 =>
      refine Gy_eq (by rw [y_X0_slice]) ?_
      exact Gy_oc (kg_y_X10_clamped _ _ _ _ hb) (fun _ h271 => Gy_oc (kg_y_X10_clamped _ _ _ _ h271) (fun _ h272 => Gy_oc (kg_y_X1_kind _ _ _ _ h272) (fun _ h273 => Gy_ite (Gy_oc (kg_y_X1_copyBytes__a15 _ _ _ _ h273) (fun _ h274 => Gy_oc (kg_y_X1_makeString__a15 _ _ _ _ h274) (fun _ h275 => Gy_so h275))) (ih _ _ _ h273))))
    | 2 =>
      refine Gy_eq (by rw [y_X0_slice]) ?_
      exact Gy_oc (kg_y_X0_load _ _ _ _ hb) (fun _ h276 => Gy_oc (kg_y_X1_makeTuple__a16 _ _ _ _ h276) (fun _ h277 => Gy_so h277))
    | b + 3 =>
      exact Gy_eq (by rw [y_X0_slice]) Gy_no
theorem kg_y_X0_images {P : Nat} : ∀ (k b : Nat) (L : LV) (σ : CS), KG P σ → Gy P (y_X0_images k b L σ) := by
  intro k
  induction k with
  | zero => intro b L σ _; exact Gy_no
  | succ k ih =>
    intro b L σ hb
    match b with
    | 0 =>
      refine Gy_eq (by rw [y_X0_images]) ?_
      exact Gy_oc (kg_y_X0_pairsFrom _ _ _ _ hb) (fun _ h278 => Gy_oc (kg_y_X0_pairsTo _ _ _ _ h278) (fun _ h279 => ih _ _ _ h279))
    | 1 =>
      refine Gy_eq (by rw [y_X0_images]) ?_
      exact Gy_ite (ih _ _ _ hb) (Gy_ite (ih _ _ _ hb) (Gy_oc (kg_y_X1_member _ _ _ _ hb) (fun _ h280 => Gy_oc (kg_y_X1_member _ _ _ _ h280) (fun _ h281 => Gy_ite (ih _ _ _ (KG_o h281 rfl)) (Gy_no)))))
    | 2 =>
      refine Gy_eq (by rw [y_X0_images]) ?_
      exact Gy_oc (kg_y_X1_makeRow__a16 _ _ _ _ hb) (fun _ h282 => Gy_so h282)
    | b + 3 =>
      exact Gy_eq (by rw [y_X0_images]) Gy_no
theorem kg_y_X0_part {P : Nat} : ∀ (k b : Nat) (L : LV) (σ : CS), KG P σ → Gy P (y_X0_part k b L σ) := by
  intro k
  induction k with
  | zero => intro b L σ _; exact Gy_no
  | succ k ih =>
    intro b L σ hb
    match b with
    | 0 =>
      refine Gy_eq (by rw [y_X0_part]) ?_
      exact Gy_ite (ih _ _ _ hb) (Gy_ite (ih _ _ _ hb) (ih _ _ _ hb))
    | 1 =>
      refine Gy_eq (by rw [y_X0_part]) ?_
      exact Gy_oc (kg_y_X0_memberAt _ _ _ _ hb) (fun _ h283 => Gy_so h283)
    | 2 =>
      refine Gy_eq (by rw [y_X0_part]) ?_
      exact Gy_oc (kg_y_X0_slice _ _ _ _ hb) (fun _ h284 => Gy_so h284)
    | 3 =>
      refine Gy_eq (by rw [y_X0_part]) ?_
      exact Gy_oc (kg_y_X1_isMap _ _ _ _ hb) (fun _ h285 => Gy_ite (ih _ _ _ h285) (Gy_oc (kg_y_X0_images _ _ _ _ h285) (fun _ h286 => ih _ _ _ h286)))
    | 4 =>
      refine Gy_eq (by rw [y_X0_part]) ?_
      exact ih _ _ _ hb
    | 5 =>
      refine Gy_eq (by rw [y_X0_part]) ?_
      exact Gy_so hb
    | b + 6 =>
      exact Gy_eq (by rw [y_X0_part]) Gy_no
theorem kg_y_X0_pair {P : Nat} : ∀ (k b : Nat) (L : LV) (σ : CS), KG P σ → Gy P (y_X0_pair k b L σ) := by
  intro k
  induction k with
  | zero => intro b L σ _; exact Gy_no
  | succ k ih =>
    intro b L σ hb
    match b with
    | 0 =>
      refine Gy_eq (by rw [y_X0_pair]) ?_
      exact Gy_ite (Gy_ite (Gy_oc (kg_y_X1_makeRow__a17 _ _ _ _ (KG_o (KG_o hb rfl) rfl)) (fun _ h287 => Gy_so h287)) (Gy_no)) (Gy_no)
    | b + 1 =>
      exact Gy_eq (by rw [y_X0_pair]) Gy_no
theorem kg_y_X0_withPair {P : Nat} : ∀ (k b : Nat) (L : LV) (σ : CS), KG P σ → Gy P (y_X0_withPair k b L σ) := by
  intro k
  induction k with
  | zero => intro b L σ _; exact Gy_no
  | succ k ih =>
    intro b L σ hb
    match b with
    | 0 =>
      refine Gy_eq (by rw [y_X0_withPair]) ?_
      exact Gy_oc (kg_y_X0_pairsFrom _ _ _ _ hb) (fun _ h288 => Gy_oc (kg_y_X0_pairsTo _ _ _ _ h288) (fun _ h289 => Gy_oc (kg_y_X0_load _ _ _ _ h289) (fun _ h290 => Gy_ite (ih _ _ _ h290) (Gy_oc (kg_y_X0_pair _ _ _ _ h290) (fun _ h291 => Gy_ite (Gy_ite (Gy_oc (kg_y_X11_isError _ _ _ _ (KG_o h291 rfl)) (fun _ h292 => Gy_ite (ih _ _ _ h292) (Gy_ite (Gy_so h292) (Gy_no)))) (Gy_no)) (Gy_no))))))
    | 1 =>
      refine Gy_eq (by rw [y_X0_withPair]) ?_
      exact Gy_oc (kg_y_X1_length _ _ _ _ hb) (fun _ h293 => Gy_oc (kg_y_X0_load _ _ _ _ h293) (fun _ h294 => Gy_oc (kg_y_X1_makeRow__a16 _ _ _ _ h294) (fun _ h295 => Gy_so h295)))
    | 2 =>
      refine Gy_eq (by rw [y_X0_withPair]) ?_
      exact ih _ _ _ hb
    | b + 3 =>
      exact Gy_eq (by rw [y_X0_withPair]) Gy_no
theorem kg_y_X0_withMember {P : Nat} : ∀ (k b : Nat) (L : LV) (σ : CS), KG P σ → Gy P (y_X0_withMember k b L σ) := by
  intro k
  induction k with
  | zero => intro b L σ _; exact Gy_no
  | succ k ih =>
    intro b L σ hb
    match b with
    | 0 =>
      refine Gy_eq (by rw [y_X0_withMember]) ?_
      exact Gy_oc (kg_y_X1_kind _ _ _ _ hb) (fun _ h296 => Gy_ite (ih _ _ _ h296) (Gy_ite (Gy_oc (kg_y_X1_kind _ _ _ _ h296) (fun _ h297 => Gy_ite (Gy_oc (kg_y_X1_length _ _ _ _ h297) (fun _ h298 => Gy_ite (ih _ _ _ h298) (ih _ _ _ h298))) (ih _ _ _ h297))) (ih _ _ _ h296)))
    | 1 =>
      refine Gy_eq (by rw [y_X0_withMember]) ?_
      exact ih _ _ _ hb
    | 2 =>
      refine Gy_eq (by rw [y_X0_withMember]) ?_
      exact ih _ _ _ hb
    | 3 =>
      refine Gy_eq (by rw [y_X0_withMember]) ?_
      exact Gy_ite (ih _ _ _ hb) (Gy_oc (kg_y_X1_kind _ _ _ _ hb) (fun _ h299 => Gy_ite (ih _ _ _ h299) (ih _ _ _ h299)))
    | 4 =>
      refine Gy_eq (by rw [y_X0_withMember]) ?_
      exact Gy_so hb
    | 5 =>
      refine Gy_eq (by rw [y_X0_withMember]) ?_
      exact Gy_oc (kg_y_X10_clamped _ _ _ _ hb) (fun _ h300 => Gy_oc (kg_y_X1_length _ _ _ _ h300) (fun _ h301 => Gy_ite (ih _ _ _ h301) (Gy_ite (Gy_ite (ih _ _ _ h301) (ih _ _ _ h301)) (ih _ _ _ h301))))
    | 6 =>
      refine Gy_eq (by rw [y_X0_withMember]) ?_
      exact Gy_so hb
    | 7 =>
      refine Gy_eq (by rw [y_X0_withMember]) ?_
      exact Gy_ite (Gy_oc (kg_y_X1_copyBytes__a15 _ _ _ _ hb) (fun _ h302 => Gy_oc (kg_y_X1_byteAt _ _ _ _ h302) (fun _ h303 => Gy_ite (Gy_oc (kg_y_X1_makeString__a15 _ _ _ _ (KG_o h303 rfl)) (fun _ h304 => Gy_so h304)) (Gy_no)))) (ih _ _ _ hb)
    | 8 =>
      refine Gy_eq (by rw [y_X0_withMember]) ?_
      exact Gy_ite (ih _ _ _ hb) (Gy_ite (Gy_so hb) (ih _ _ _ hb))
    | 9 =>
      refine Gy_eq (by rw [y_X0_withMember]) ?_
      exact Gy_ite (ih _ _ _ hb) (Gy_so hb)
    | 10 =>
      refine Gy_eq (by rw [y_X0_withMember]) ?_
      exact Gy_oc (kg_y_X0_load _ _ _ _ hb) (fun _ h305 => ih _ _ _ h305)
    | 11 =>
      refine Gy_eq (by rw [y_X0_withMember]) ?_
      exact Gy_ite (ih _ _ _ hb) (Gy_ite (ih _ _ _ (KG_o hb rfl)) (Gy_no))
    | 12 =>
      refine Gy_eq (by rw [y_X0_withMember]) ?_
      exact Gy_ite (Gy_oc (kg_y_X1_makeTuple__a16 _ _ _ _ (KG_o hb rfl)) (fun _ h306 => Gy_so h306)) (Gy_no)
    | b + 13 =>
      exact Gy_eq (by rw [y_X0_withMember]) Gy_no
theorem kg_y_X0_withSlice {P : Nat} : ∀ (k b : Nat) (L : LV) (σ : CS), KG P σ → Gy P (y_X0_withSlice k b L σ) := by
  intro k
  induction k with
  | zero => intro b L σ _; exact Gy_no
  | succ k ih =>
    intro b L σ hb
    match b with
    | 0 =>
      refine Gy_eq (by rw [y_X0_withSlice]) ?_
      exact Gy_oc (kg_y_X1_kind _ _ _ _ hb) (fun _ h307 => Gy_oc (kg_y_X1_kind _ _ _ _ h307) (fun _ h308 => Gy_ite (Gy_oc (kg_y_X0_rowError _ _ _ _ h308) (fun _ h309 => ih _ _ _ h309)) (ih _ _ _ h308)))
    | 1 =>
      refine Gy_eq (by rw [y_X0_withSlice]) ?_
      exact ih _ _ _ hb
    | 2 =>
      refine Gy_eq (by rw [y_X0_withSlice]) ?_
      exact Gy_ite (ih _ _ _ hb) (Gy_so hb)
    | 3 =>
      refine Gy_eq (by rw [y_X0_withSlice]) ?_
      exact Gy_oc (kg_y_X10_clamped _ _ _ _ hb) (fun _ h310 => Gy_oc (kg_y_X10_clamped _ _ _ _ h310) (fun _ h311 => Gy_oc (kg_y_X1_length _ _ _ _ h311) (fun _ h312 => Gy_oc (kg_y_X1_kind _ _ _ _ h312) (fun _ h313 => Gy_ite (Gy_oc (kg_y_X1_copyBytes__a15 _ _ _ _ h313) (fun _ h314 => Gy_oc (kg_y_X1_length _ _ _ _ h314) (fun _ h315 => Gy_oc (kg_y_X1_copyBytes__a15 _ _ _ _ h315) (fun _ h316 => Gy_oc (kg_y_X1_copyBytes__a15 _ _ _ _ h316) (fun _ h317 => Gy_oc (kg_y_X1_makeString__a15 _ _ _ _ h317) (fun _ h318 => Gy_so h318)))))) (ih _ _ _ h313)))))
    | 4 =>
      refine Gy_eq (by rw [y_X0_withSlice]) ?_
      exact Gy_oc (kg_y_X0_load _ _ _ _ hb) (fun _ h319 => Gy_oc (kg_y_X1_length _ _ _ _ h319) (fun _ h320 => Gy_oc (kg_y_X0_load _ _ _ _ h320) (fun _ h321 => Gy_oc (kg_y_X0_load _ _ _ _ h321) (fun _ h322 => Gy_oc (kg_y_X1_makeTuple__a16 _ _ _ _ h322) (fun _ h323 => Gy_so h323)))))
    | b + 5 =>
      exact Gy_eq (by rw [y_X0_withSlice]) Gy_no
theorem kg_y_X0_withImages {P : Nat} : ∀ (k b : Nat) (L : LV) (σ : CS), KG P σ → Gy P (y_X0_withImages k b L σ) := by
  intro k
  induction k with
  | zero => intro b L σ _; exact Gy_no
  | succ k ih =>
    intro b L σ hb
    match b with
    | 0 =>
      refine Gy_eq (by rw [y_X0_withImages]) ?_
      exact Gy_oc (kg_y_X0_pairsFrom _ _ _ _ hb) (fun _ h324 => Gy_oc (kg_y_X0_pairsTo _ _ _ _ h324) (fun _ h325 => Gy_oc (kg_y_X1_size _ _ _ _ h325) (fun _ h326 => Gy_oc (kg_y_X1_size _ _ _ _ h326) (fun _ h327 => Gy_oc (kg_y_X1_length _ _ _ _ h327) (fun _ h328 => Gy_oc (kg_y_X1_size _ _ _ _ h328) (fun _ h329 => ih _ _ _ h329))))))
    | 1 =>
      refine Gy_eq (by rw [y_X0_withImages]) ?_
      exact Gy_ite (ih _ _ _ hb) (Gy_oc (kg_y_X1_member _ _ _ _ hb) (fun _ h330 => Gy_oc (kg_y_X1_size _ _ _ _ h330) (fun _ h331 => ih _ _ _ h331)))
    | 2 =>
      refine Gy_eq (by rw [y_X0_withImages]) ?_
      exact Gy_ite (ih _ _ _ hb) (Gy_so hb)
    | 3 =>
      refine Gy_eq (by rw [y_X0_withImages]) ?_
      exact Gy_oc (kg_y_X0_load _ _ _ _ hb) (fun _ h332 => ih _ _ _ h332)
    | 4 =>
      refine Gy_eq (by rw [y_X0_withImages]) ?_
      exact Gy_oc (kg_y_X1_length _ _ _ _ hb) (fun _ h333 => Gy_ite (ih _ _ _ h333) (Gy_ite (ih _ _ _ h333) (Gy_oc (kg_y_X1_member _ _ _ _ h333) (fun _ h334 => Gy_oc (kg_y_X0_pair _ _ _ _ h334) (fun _ h335 => Gy_ite (Gy_ite (Gy_oc (kg_y_X11_isError _ _ _ _ (KG_o h335 rfl)) (fun _ h336 => Gy_ite (ih _ _ _ h336) (Gy_ite (Gy_so h336) (Gy_no)))) (Gy_no)) (Gy_no))))))
    | 5 =>
      refine Gy_eq (by rw [y_X0_withImages]) ?_
      exact Gy_oc (kg_y_X1_length _ _ _ _ hb) (fun _ h337 => Gy_oc (kg_y_X0_load _ _ _ _ h337) (fun _ h338 => Gy_oc (kg_y_X1_makeRow__a16 _ _ _ _ h338) (fun _ h339 => Gy_so h339)))
    | 6 =>
      refine Gy_eq (by rw [y_X0_withImages]) ?_
      exact ih _ _ _ hb
    | b + 7 =>
      exact Gy_eq (by rw [y_X0_withImages]) Gy_no
theorem kg_y_X0_written {P : Nat} : ∀ (k b : Nat) (L : LV) (σ : CS), KG P σ → Gy P (y_X0_written k b L σ) := by
  intro k
  induction k with
  | zero => intro b L σ _; exact Gy_no
  | succ k ih =>
    intro b L σ hb
    match b with
    | 0 =>
      refine Gy_eq (by rw [y_X0_written]) ?_
      exact Gy_ite (ih _ _ _ hb) (Gy_ite (ih _ _ _ hb) (ih _ _ _ hb))
    | 1 =>
      refine Gy_eq (by rw [y_X0_written]) ?_
      exact Gy_oc (kg_y_X1_isMap _ _ _ _ hb) (fun _ h340 => Gy_ite (ih _ _ _ h340) (Gy_oc (kg_y_X0_withPair _ _ _ _ h340) (fun _ h341 => ih _ _ _ h341)))
    | 2 =>
      refine Gy_eq (by rw [y_X0_written]) ?_
      exact Gy_oc (kg_y_X0_withSlice _ _ _ _ hb) (fun _ h342 => Gy_so h342)
    | 3 =>
      refine Gy_eq (by rw [y_X0_written]) ?_
      exact Gy_oc (kg_y_X1_isMap _ _ _ _ hb) (fun _ h343 => Gy_ite (ih _ _ _ h343) (Gy_oc (kg_y_X1_kind _ _ _ _ h343) (fun _ h344 => Gy_ite (Gy_oc (kg_y_X0_withImages _ _ _ _ h344) (fun _ h345 => ih _ _ _ h345)) (ih _ _ _ h344))))
    | 4 =>
      refine Gy_eq (by rw [y_X0_written]) ?_
      exact Gy_oc (kg_y_X0_withMember _ _ _ _ hb) (fun _ h346 => ih _ _ _ h346)
    | 5 =>
      refine Gy_eq (by rw [y_X0_written]) ?_
      exact Gy_so hb
    | 6 =>
      refine Gy_eq (by rw [y_X0_written]) ?_
      exact ih _ _ _ hb
    | 7 =>
      refine Gy_eq (by rw [y_X0_written]) ?_
      exact Gy_so hb
    | b + 8 =>
      exact Gy_eq (by rw [y_X0_written]) Gy_no
theorem kg_y_X0_remainder {P : Nat} : ∀ (k b : Nat) (L : LV) (σ : CS), KG P σ → Gy P (y_X0_remainder k b L σ) := by
  intro k
  induction k with
  | zero => intro b L σ _; exact Gy_no
  | succ k ih =>
    intro b L σ hb
    match b with
    | 0 =>
      refine Gy_eq (by rw [y_X0_remainder]) ?_
      exact Gy_oc (kg_y_X1_length _ _ _ _ hb) (fun _ h347 => Gy_ite (ih _ _ _ h347) (ih _ _ _ h347))
    | 1 =>
      refine Gy_eq (by rw [y_X0_remainder]) ?_
      exact ih _ _ _ hb
    | 2 =>
      refine Gy_eq (by rw [y_X0_remainder]) ?_
      exact Gy_ite (ih _ _ _ hb) (ih _ _ _ hb)
    | 3 =>
      refine Gy_eq (by rw [y_X0_remainder]) ?_
      exact ih _ _ _ hb
    | 4 =>
      refine Gy_eq (by rw [y_X0_remainder]) ?_
      exact Gy_oc (kg_y_X1_kind _ _ _ _ hb) (fun _ h348 => Gy_ite (Gy_oc (kg_y_X1_copyBytes__a15 _ _ _ _ h348) (fun _ h349 => Gy_oc (kg_y_X1_makeString__a15 _ _ _ _ h349) (fun _ h350 => Gy_so h350))) (ih _ _ _ h348))
    | 5 =>
      refine Gy_eq (by rw [y_X0_remainder]) ?_
      exact Gy_oc (kg_y_X0_load _ _ _ _ hb) (fun _ h351 => Gy_ite (Gy_oc (kg_y_X1_makeRow__a16 _ _ _ _ h351) (fun _ h352 => ih _ _ _ h352)) (ih _ _ _ h351))
    | 6 =>
      refine Gy_eq (by rw [y_X0_remainder]) ?_
      exact Gy_oc (kg_y_X1_makeTuple__a16 _ _ _ _ hb) (fun _ h353 => ih _ _ _ h353)
    | 7 =>
      refine Gy_eq (by rw [y_X0_remainder]) ?_
      exact Gy_so hb
    | b + 8 =>
      exact Gy_eq (by rw [y_X0_remainder]) Gy_no
theorem kg_y_X1_wordsBehind {P : Nat} : ∀ (k b : Nat) (L : LV) (σ : CS), KG P σ → Gy P (y_X1_wordsBehind k b L σ) := by
  intro k
  induction k with
  | zero => intro b L σ _; exact Gy_no
  | succ k ih =>
    intro b L σ hb
    match b with
    | 0 =>
      refine Gy_eq (by rw [y_X1_wordsBehind]) ?_
      exact Gy_ite (ih _ _ _ hb) (ih _ _ _ hb)
    | 1 =>
      refine Gy_eq (by rw [y_X1_wordsBehind]) ?_
      exact ih _ _ _ hb
    | 2 =>
      refine Gy_eq (by rw [y_X1_wordsBehind]) ?_
      exact Gy_so hb
    | b + 3 =>
      exact Gy_eq (by rw [y_X1_wordsBehind]) Gy_no
theorem kg_y_X1_isTight {P : Nat} : ∀ (k b : Nat) (L : LV) (σ : CS), KG P σ → Gy P (y_X1_isTight k b L σ) := by
  intro k
  induction k with
  | zero => intro b L σ _; exact Gy_no
  | succ k ih =>
    intro b L σ hb
    match b with
    | 0 =>
      refine Gy_eq (by rw [y_X1_isTight]) ?_
      exact Gy_ite (ih _ _ _ hb) (ih _ _ _ hb)
    | 1 =>
      refine Gy_eq (by rw [y_X1_isTight]) ?_
      exact ih _ _ _ hb
    | 2 =>
      refine Gy_eq (by rw [y_X1_isTight]) ?_
      exact Gy_ite (Gy_so hb) (Gy_no)
    | b + 3 =>
      exact Gy_eq (by rw [y_X1_isTight]) Gy_no
theorem kg_y_X1_isScarce {P : Nat} : ∀ (k b : Nat) (L : LV) (σ : CS), KG P σ → Gy P (y_X1_isScarce k b L σ) := by
  intro k
  induction k with
  | zero => intro b L σ _; exact Gy_no
  | succ k ih =>
    intro b L σ hb
    match b with
    | 0 =>
      refine Gy_eq (by rw [y_X1_isScarce]) ?_
      exact Gy_ite (Gy_no) (Gy_ite (ih _ _ _ hb) (ih _ _ _ hb))
    | 1 =>
      refine Gy_eq (by rw [y_X1_isScarce]) ?_
      exact ih _ _ _ hb
    | 2 =>
      refine Gy_eq (by rw [y_X1_isScarce]) ?_
      exact Gy_ite (Gy_so hb) (Gy_no)
    | b + 3 =>
      exact Gy_eq (by rw [y_X1_isScarce]) Gy_no
theorem kg_y_J7_fill_53178__z1 {P : Nat} : ∀ (k b : Nat) (L : LV) (σ : CS), KG P σ → Gy P (y_J7_fill_53178__z1 k b L σ) := by
  intro k
  induction k with
  | zero => intro b L σ _; exact Gy_no
  | succ k ih =>
    intro b L σ hb
    match b with
    | 0 =>
      refine Gy_eq (by rw [y_J7_fill_53178__z1]) ?_
      exact ih _ _ _ hb
    | 1 =>
      refine Gy_eq (by rw [y_J7_fill_53178__z1]) ?_
      exact Gy_ite (ih _ _ _ hb) (Gy_ite (ih _ _ _ (KG_o hb rfl)) (Gy_no))
    | 2 =>
      refine Gy_eq (by rw [y_J7_fill_53178__z1]) ?_
      exact Gy_so hb
    | b + 3 =>
      exact Gy_eq (by rw [y_J7_fill_53178__z1]) Gy_no
theorem kg_y_X1_beginMarking {P : Nat} : ∀ (k b : Nat) (L : LV) (σ : CS), KG P σ → Gy P (y_X1_beginMarking k b L σ) := by
  intro k
  induction k with
  | zero => intro b L σ _; exact Gy_no
  | succ k ih =>
    intro b L σ hb
    match b with
    | 0 =>
      refine Gy_eq (by rw [y_X1_beginMarking]) ?_
      exact Gy_oc (kg_y_J7_fill_53178__z1 _ _ _ _ hb) (fun _ h354 => Gy_ite (Gy_so (KG_o h354 rfl)) (Gy_no))
    | b + 1 =>
      exact Gy_eq (by rw [y_X1_beginMarking]) Gy_no
theorem kg_t_X1_markCell {P : Nat} {X : Nat → Nat → Nat → LV → CS → Option (Int32 × CS)} (hX : ∀ e m b L (σ : CS), KG P σ → Gy P (X e m b L σ)) (K d b : Nat) (L : LV) (σ : CS) (hb : KG P σ) : Gy P (t_X1_markCell X K d b L σ) := by
  match b with
  | 0 => exact Gy_ite (Gy_ite (hX _ _ _ _ _ hb) (Gy_so hb)) (Gy_no)
  | 1 => exact Gy_ite (Gy_ite (Gy_ite (hX _ _ _ _ _ hb) (hX _ _ _ _ _ hb)) (Gy_no)) (Gy_no)
  | 2 => exact hX _ _ _ _ _ hb
  | 3 => exact hX _ _ _ _ _ hb
  | 4 => exact Gy_ite (hX _ _ _ _ _ hb) (Gy_ite (Gy_ite (hX _ _ _ _ _ (KG_o hb rfl)) (Gy_no)) (Gy_no))
  | 5 => exact hX _ _ _ _ _ hb
  | 6 => exact Gy_ite (hX _ _ _ _ _ hb) (Gy_ite (hX _ _ _ _ _ hb) (Gy_ite (Gy_ite (hX _ _ _ _ _ hb) (Gy_ite (Gy_oe (fun _ => Gy_oc (hX _ _ _ _ _ hb) (fun _ h355 => hX _ _ _ _ _ h355))) (Gy_no))) (Gy_no)))
  | 7 => exact Gy_so hb
  | 8 => exact hX _ _ _ _ _ hb
  | b + 9 => exact Gy_no
theorem kg_y_H2 {P : Nat} : ∀ (k d m b : Nat) (L : LV) (σ : CS), KG P σ → Gy P (y_H2 k d m b L σ) := by
  intro k
  induction k with
  | zero => intro d m b L σ _; exact Gy_no
  | succ k ih =>
    intro d m b L σ hb
    match m with
    | 0 => exact kg_t_X1_markCell ih k d b L σ hb
    | m + 1 => exact Gy_no
theorem kg_y_X1_markCell {P : Nat} (k b : Nat) (L : LV) (σ : CS) (hb : KG P σ) : Gy P (y_X1_markCell k b L σ) := kg_y_H2 k 60 0 b L σ hb
theorem kg_y_J6_bitCount_0f7a4 {P : Nat} : ∀ (k b : Nat) (L : LV) (σ : CS), KG P σ → Gy P (y_J6_bitCount_0f7a4 k b L σ) := by
  intro k
  induction k with
  | zero => intro b L σ _; exact Gy_no
  | succ k ih =>
    intro b L σ hb
    match b with
    | 0 =>
      refine Gy_eq (by rw [y_J6_bitCount_0f7a4]) ?_
      exact Gy_so hb
    | b + 1 =>
      exact Gy_eq (by rw [y_J6_bitCount_0f7a4]) Gy_no
theorem kg_y_X1_endMarking {P : Nat} : ∀ (k b : Nat) (L : LV) (σ : CS), KG P σ → Gy P (y_X1_endMarking k b L σ) := by
  intro k
  induction k with
  | zero => intro b L σ _; exact Gy_no
  | succ k ih =>
    intro b L σ hb
    match b with
    | 0 =>
      refine Gy_eq (by rw [y_X1_endMarking]) ?_
      exact ih _ _ _ hb
    | 1 =>
      refine Gy_eq (by rw [y_X1_endMarking]) ?_
      exact Gy_ite (ih _ _ _ hb) (Gy_ite (Gy_ite (Gy_oc (kg_y_J6_bitCount_0f7a4 _ _ _ _ (KG_o hb rfl)) (fun _ h356 => ih _ _ _ h356)) (Gy_no)) (Gy_no))
    | 2 =>
      refine Gy_eq (by rw [y_X1_endMarking]) ?_
      exact Gy_so hb
    | b + 3 =>
      exact Gy_eq (by rw [y_X1_endMarking]) Gy_no
theorem kg_y_X1_placeOf {P : Nat} : ∀ (k b : Nat) (L : LV) (σ : CS), KG P σ → Gy P (y_X1_placeOf k b L σ) := by
  intro k
  induction k with
  | zero => intro b L σ _; exact Gy_no
  | succ k ih =>
    intro b L σ hb
    match b with
    | 0 =>
      refine Gy_eq (by rw [y_X1_placeOf]) ?_
      exact Gy_ite (Gy_ite (Gy_oc (kg_y_J6_bitCount_0f7a4 _ _ _ _ hb) (fun _ h357 => Gy_so h357)) (Gy_no)) (Gy_no)
    | b + 1 =>
      exact Gy_eq (by rw [y_X1_placeOf]) Gy_no
theorem kg_y_X1_moveCells {P : Nat} : ∀ (k b : Nat) (L : LV) (σ : CS), KG P σ → Gy P (y_X1_moveCells k b L σ) := by
  intro k
  induction k with
  | zero => intro b L σ _; exact Gy_no
  | succ k ih =>
    intro b L σ hb
    match b with
    | 0 =>
      refine Gy_eq (by rw [y_X1_moveCells]) ?_
      exact ih _ _ _ hb
    | 1 =>
      refine Gy_eq (by rw [y_X1_moveCells]) ?_
      exact Gy_ite (ih _ _ _ hb) (Gy_ite (Gy_oc (kg_y_X1_wordsBehind _ _ _ _ hb) (fun _ h358 => Gy_ite (Gy_ite (ih _ _ _ h358) (ih _ _ _ h358)) (Gy_no))) (Gy_no))
    | 2 =>
      refine Gy_eq (by rw [y_X1_moveCells]) ?_
      exact Gy_so (KG_I (by decide) hb)
    | 3 =>
      refine Gy_eq (by rw [y_X1_moveCells]) ?_
      exact ih _ _ _ hb
    | 4 =>
      refine Gy_eq (by rw [y_X1_moveCells]) ?_
      exact Gy_ite (ih _ _ _ hb) (Gy_ite (ih _ _ _ hb) (Gy_ite (Gy_ite (ih _ _ _ hb) (Gy_ite (Gy_oc (kg_y_X1_placeOf _ _ _ _ hb) (fun _ h359 => ih _ _ _ h359)) (Gy_no))) (Gy_no)))
    | 5 =>
      refine Gy_eq (by rw [y_X1_moveCells]) ?_
      exact Gy_ite (ih _ _ _ (KG_o hb rfl)) (Gy_no)
    | 6 =>
      refine Gy_eq (by rw [y_X1_moveCells]) ?_
      exact Gy_ite (ih _ _ _ hb) (Gy_no)
    | 7 =>
      refine Gy_eq (by rw [y_X1_moveCells]) ?_
      exact Gy_ite (ih _ _ _ (KG_o hb rfl)) (Gy_no)
    | b + 8 =>
      exact Gy_eq (by rw [y_X1_moveCells]) Gy_no
theorem kg_y_X9_used {P : Nat} : ∀ (k b : Nat) (L : LV) (σ : CS), KG P σ → Gy P (y_X9_used k b L σ) := by
  intro k
  induction k with
  | zero => intro b L σ _; exact Gy_no
  | succ k ih =>
    intro b L σ hb
    match b with
    | 0 =>
      refine Gy_eq (by rw [y_X9_used]) ?_
      exact Gy_ite (ih _ _ _ hb) (Gy_ite (Gy_ite (Gy_ite (Gy_ite (ih _ _ _ hb) (Gy_no)) (Gy_no)) (Gy_no)) (Gy_no))
    | 1 =>
      refine Gy_eq (by rw [y_X9_used]) ?_
      exact ih _ _ _ hb
    | 2 =>
      refine Gy_eq (by rw [y_X9_used]) ?_
      exact Gy_so hb
    | b + 3 =>
      exact Gy_eq (by rw [y_X9_used]) Gy_no
theorem kg_y_X1_markRow__z20 {P : Nat} : ∀ (k b : Nat) (L : LV) (σ : CS), KG P σ → Gy P (y_X1_markRow__z20 k b L σ) := by
  intro k
  induction k with
  | zero => intro b L σ _; exact Gy_no
  | succ k ih =>
    intro b L σ hb
    match b with
    | 0 =>
      refine Gy_eq (by rw [y_X1_markRow__z20]) ?_
      exact ih _ _ _ hb
    | 1 =>
      refine Gy_eq (by rw [y_X1_markRow__z20]) ?_
      exact Gy_ite (ih _ _ _ hb) (Gy_ite (Gy_ite (ih _ _ _ hb) (Gy_ite (Gy_oc (kg_y_X1_markCell _ _ _ _ hb) (fun _ h360 => ih _ _ _ h360)) (Gy_no))) (Gy_no))
    | 2 =>
      refine Gy_eq (by rw [y_X1_markRow__z20]) ?_
      exact Gy_so hb
    | 3 =>
      refine Gy_eq (by rw [y_X1_markRow__z20]) ?_
      exact ih _ _ _ hb
    | b + 4 =>
      exact Gy_eq (by rw [y_X1_markRow__z20]) Gy_no
theorem kg_y_X1_markRow__a23 {P : Nat} : ∀ (k b : Nat) (L : LV) (σ : CS), KG P σ → Gy P (y_X1_markRow__a23 k b L σ) := by
  intro k
  induction k with
  | zero => intro b L σ _; exact Gy_no
  | succ k ih =>
    intro b L σ hb
    match b with
    | 0 =>
      refine Gy_eq (by rw [y_X1_markRow__a23]) ?_
      exact ih _ _ _ hb
    | 1 =>
      refine Gy_eq (by rw [y_X1_markRow__a23]) ?_
      exact Gy_ite (ih _ _ _ hb) (Gy_ite (Gy_ite (ih _ _ _ hb) (Gy_ite (Gy_oc (kg_y_X1_markCell _ _ _ _ hb) (fun _ h361 => ih _ _ _ h361)) (Gy_no))) (Gy_no))
    | 2 =>
      refine Gy_eq (by rw [y_X1_markRow__a23]) ?_
      exact Gy_so hb
    | 3 =>
      refine Gy_eq (by rw [y_X1_markRow__a23]) ?_
      exact ih _ _ _ hb
    | b + 4 =>
      exact Gy_eq (by rw [y_X1_markRow__a23]) Gy_no
theorem kg_y_X1_markRow__z21 {P : Nat} : ∀ (k b : Nat) (L : LV) (σ : CS), KG P σ → Gy P (y_X1_markRow__z21 k b L σ) := by
  intro k
  induction k with
  | zero => intro b L σ _; exact Gy_no
  | succ k ih =>
    intro b L σ hb
    match b with
    | 0 =>
      refine Gy_eq (by rw [y_X1_markRow__z21]) ?_
      exact ih _ _ _ hb
    | 1 =>
      refine Gy_eq (by rw [y_X1_markRow__z21]) ?_
      exact Gy_ite (ih _ _ _ hb) (Gy_ite (Gy_ite (ih _ _ _ hb) (Gy_ite (Gy_oc (kg_y_X1_markCell _ _ _ _ hb) (fun _ h362 => ih _ _ _ h362)) (Gy_no))) (Gy_no))
    | 2 =>
      refine Gy_eq (by rw [y_X1_markRow__z21]) ?_
      exact Gy_so hb
    | 3 =>
      refine Gy_eq (by rw [y_X1_markRow__z21]) ?_
      exact ih _ _ _ hb
    | b + 4 =>
      exact Gy_eq (by rw [y_X1_markRow__z21]) Gy_no
theorem kg_y_X1_markRow__a67 {P : Nat} : ∀ (k b : Nat) (L : LV) (σ : CS), KG P σ → Gy P (y_X1_markRow__a67 k b L σ) := by
  intro k
  induction k with
  | zero => intro b L σ _; exact Gy_no
  | succ k ih =>
    intro b L σ hb
    match b with
    | 0 =>
      refine Gy_eq (by rw [y_X1_markRow__a67]) ?_
      exact ih _ _ _ hb
    | 1 =>
      refine Gy_eq (by rw [y_X1_markRow__a67]) ?_
      exact Gy_ite (ih _ _ _ hb) (Gy_ite (Gy_ite (ih _ _ _ hb) (Gy_ite (Gy_oc (kg_y_X1_markCell _ _ _ _ hb) (fun _ h363 => ih _ _ _ h363)) (Gy_no))) (Gy_no))
    | 2 =>
      refine Gy_eq (by rw [y_X1_markRow__a67]) ?_
      exact Gy_so hb
    | 3 =>
      refine Gy_eq (by rw [y_X1_markRow__a67]) ?_
      exact ih _ _ _ hb
    | b + 4 =>
      exact Gy_eq (by rw [y_X1_markRow__a67]) Gy_no
theorem kg_y_X1_markRow__z26 {P : Nat} : ∀ (k b : Nat) (L : LV) (σ : CS), KG P σ → Gy P (y_X1_markRow__z26 k b L σ) := by
  intro k
  induction k with
  | zero => intro b L σ _; exact Gy_no
  | succ k ih =>
    intro b L σ hb
    match b with
    | 0 =>
      refine Gy_eq (by rw [y_X1_markRow__z26]) ?_
      exact ih _ _ _ hb
    | 1 =>
      refine Gy_eq (by rw [y_X1_markRow__z26]) ?_
      exact Gy_ite (ih _ _ _ hb) (Gy_ite (Gy_ite (ih _ _ _ hb) (Gy_ite (Gy_oc (kg_y_X1_markCell _ _ _ _ hb) (fun _ h364 => ih _ _ _ h364)) (Gy_no))) (Gy_no))
    | 2 =>
      refine Gy_eq (by rw [y_X1_markRow__z26]) ?_
      exact Gy_so hb
    | 3 =>
      refine Gy_eq (by rw [y_X1_markRow__z26]) ?_
      exact ih _ _ _ hb
    | b + 4 =>
      exact Gy_eq (by rw [y_X1_markRow__z26]) Gy_no
theorem kg_y_X1_moveRow__z20 {P : Nat} : ∀ (k b : Nat) (L : LV) (σ : CS), KG P σ → Gy P (y_X1_moveRow__z20 k b L σ) := by
  intro k
  induction k with
  | zero => intro b L σ _; exact Gy_no
  | succ k ih =>
    intro b L σ hb
    match b with
    | 0 =>
      refine Gy_eq (by rw [y_X1_moveRow__z20]) ?_
      exact ih _ _ _ hb
    | 1 =>
      refine Gy_eq (by rw [y_X1_moveRow__z20]) ?_
      exact Gy_ite (ih _ _ _ hb) (Gy_ite (Gy_ite (ih _ _ _ hb) (Gy_ite (Gy_oc (kg_y_X1_placeOf _ _ _ _ hb) (fun _ h365 => Gy_ite (ih _ _ _ (KG_o h365 rfl)) (Gy_no))) (Gy_no))) (Gy_no))
    | 2 =>
      refine Gy_eq (by rw [y_X1_moveRow__z20]) ?_
      exact Gy_so hb
    | 3 =>
      refine Gy_eq (by rw [y_X1_moveRow__z20]) ?_
      exact ih _ _ _ hb
    | b + 4 =>
      exact Gy_eq (by rw [y_X1_moveRow__z20]) Gy_no
theorem kg_y_X1_moveRow__a23 {P : Nat} : ∀ (k b : Nat) (L : LV) (σ : CS), KG P σ → Gy P (y_X1_moveRow__a23 k b L σ) := by
  intro k
  induction k with
  | zero => intro b L σ _; exact Gy_no
  | succ k ih =>
    intro b L σ hb
    match b with
    | 0 =>
      refine Gy_eq (by rw [y_X1_moveRow__a23]) ?_
      exact ih _ _ _ hb
    | 1 =>
      refine Gy_eq (by rw [y_X1_moveRow__a23]) ?_
      exact Gy_ite (ih _ _ _ hb) (Gy_ite (Gy_ite (ih _ _ _ hb) (Gy_ite (Gy_oc (kg_y_X1_placeOf _ _ _ _ hb) (fun _ h366 => Gy_ite (ih _ _ _ (KG_o h366 rfl)) (Gy_no))) (Gy_no))) (Gy_no))
    | 2 =>
      refine Gy_eq (by rw [y_X1_moveRow__a23]) ?_
      exact Gy_so hb
    | 3 =>
      refine Gy_eq (by rw [y_X1_moveRow__a23]) ?_
      exact ih _ _ _ hb
    | b + 4 =>
      exact Gy_eq (by rw [y_X1_moveRow__a23]) Gy_no
theorem kg_y_X1_moveRow__z21 {P : Nat} : ∀ (k b : Nat) (L : LV) (σ : CS), KG P σ → Gy P (y_X1_moveRow__z21 k b L σ) := by
  intro k
  induction k with
  | zero => intro b L σ _; exact Gy_no
  | succ k ih =>
    intro b L σ hb
    match b with
    | 0 =>
      refine Gy_eq (by rw [y_X1_moveRow__z21]) ?_
      exact ih _ _ _ hb
    | 1 =>
      refine Gy_eq (by rw [y_X1_moveRow__z21]) ?_
      exact Gy_ite (ih _ _ _ hb) (Gy_ite (Gy_ite (ih _ _ _ hb) (Gy_ite (Gy_oc (kg_y_X1_placeOf _ _ _ _ hb) (fun _ h367 => Gy_ite (ih _ _ _ (KG_o h367 rfl)) (Gy_no))) (Gy_no))) (Gy_no))
    | 2 =>
      refine Gy_eq (by rw [y_X1_moveRow__z21]) ?_
      exact Gy_so hb
    | 3 =>
      refine Gy_eq (by rw [y_X1_moveRow__z21]) ?_
      exact ih _ _ _ hb
    | b + 4 =>
      exact Gy_eq (by rw [y_X1_moveRow__z21]) Gy_no
theorem kg_y_X1_moveRow__a67 {P : Nat} : ∀ (k b : Nat) (L : LV) (σ : CS), KG P σ → Gy P (y_X1_moveRow__a67 k b L σ) := by
  intro k
  induction k with
  | zero => intro b L σ _; exact Gy_no
  | succ k ih =>
    intro b L σ hb
    match b with
    | 0 =>
      refine Gy_eq (by rw [y_X1_moveRow__a67]) ?_
      exact ih _ _ _ hb
    | 1 =>
      refine Gy_eq (by rw [y_X1_moveRow__a67]) ?_
      exact Gy_ite (ih _ _ _ hb) (Gy_ite (Gy_ite (ih _ _ _ hb) (Gy_ite (Gy_oc (kg_y_X1_placeOf _ _ _ _ hb) (fun _ h368 => Gy_ite (ih _ _ _ (KG_o h368 rfl)) (Gy_no))) (Gy_no))) (Gy_no))
    | 2 =>
      refine Gy_eq (by rw [y_X1_moveRow__a67]) ?_
      exact Gy_so hb
    | 3 =>
      refine Gy_eq (by rw [y_X1_moveRow__a67]) ?_
      exact ih _ _ _ hb
    | b + 4 =>
      exact Gy_eq (by rw [y_X1_moveRow__a67]) Gy_no
theorem kg_y_X1_moveRow__z26 {P : Nat} : ∀ (k b : Nat) (L : LV) (σ : CS), KG P σ → Gy P (y_X1_moveRow__z26 k b L σ) := by
  intro k
  induction k with
  | zero => intro b L σ _; exact Gy_no
  | succ k ih =>
    intro b L σ hb
    match b with
    | 0 =>
      refine Gy_eq (by rw [y_X1_moveRow__z26]) ?_
      exact ih _ _ _ hb
    | 1 =>
      refine Gy_eq (by rw [y_X1_moveRow__z26]) ?_
      exact Gy_ite (ih _ _ _ hb) (Gy_ite (Gy_ite (ih _ _ _ hb) (Gy_ite (Gy_oc (kg_y_X1_placeOf _ _ _ _ hb) (fun _ h369 => Gy_ite (ih _ _ _ (KG_o h369 rfl)) (Gy_no))) (Gy_no))) (Gy_no))
    | 2 =>
      refine Gy_eq (by rw [y_X1_moveRow__z26]) ?_
      exact Gy_so hb
    | 3 =>
      refine Gy_eq (by rw [y_X1_moveRow__z26]) ?_
      exact ih _ _ _ hb
    | b + 4 =>
      exact Gy_eq (by rw [y_X1_moveRow__z26]) Gy_no
theorem kg_y_X3_moveAll {P : Nat} : ∀ (k b : Nat) (L : LV) (σ : CS), KG P σ → Gy P (y_X3_moveAll k b L σ) := by
  intro k
  induction k with
  | zero => intro b L σ _; exact Gy_no
  | succ k ih =>
    intro b L σ hb
    match b with
    | 0 =>
      refine Gy_eq (by rw [y_X3_moveAll]) ?_
      exact Gy_oc (kg_y_X1_beginMarking _ _ _ _ hb) (fun _ h370 => Gy_oc (kg_y_X1_markRow__z20 _ _ _ _ h370) (fun _ h371 => Gy_oc (kg_y_X1_markRow__a23 _ _ _ _ h371) (fun _ h372 => Gy_oc (kg_y_X1_markRow__z21 _ _ _ _ h372) (fun _ h373 => Gy_oc (kg_y_X1_markRow__a67 _ _ _ _ h373) (fun _ h374 => Gy_oc (kg_y_X9_used _ _ _ _ h374) (fun _ h375 => Gy_oc (kg_y_X1_markRow__z26 _ _ _ _ h375) (fun _ h376 => Gy_oc (kg_y_X1_endMarking _ _ _ _ h376) (fun _ h377 => Gy_oc (kg_y_X1_moveRow__z20 _ _ _ _ h377) (fun _ h378 => Gy_oc (kg_y_X1_moveRow__a23 _ _ _ _ h378) (fun _ h379 => Gy_oc (kg_y_X1_moveRow__z21 _ _ _ _ h379) (fun _ h380 => Gy_oc (kg_y_X1_moveRow__a67 _ _ _ _ h380) (fun _ h381 => Gy_oc (kg_y_X9_used _ _ _ _ h381) (fun _ h382 => Gy_oc (kg_y_X1_moveRow__z26 _ _ _ _ h382) (fun _ h383 => Gy_oc (kg_y_X1_moveCells _ _ _ _ h383) (fun _ h384 => Gy_so h384)))))))))))))))
    | b + 1 =>
      exact Gy_eq (by rw [y_X3_moveAll]) Gy_no
theorem kg_y_X3_beginWork {P : Nat} : ∀ (k b : Nat) (L : LV) (σ : CS), KG P σ → Gy P (y_X3_beginWork k b L σ) := by
  intro k
  induction k with
  | zero => intro b L σ _; exact Gy_no
  | succ k ih =>
    intro b L σ hb
    match b with
    | 0 =>
      refine Gy_eq (by rw [y_X3_beginWork]) ?_
      exact ih _ _ _ (KG_I (by decide) (KG_I (by decide) (KG_I (by decide) hb)))
    | 1 =>
      refine Gy_eq (by rw [y_X3_beginWork]) ?_
      exact Gy_so (KG_I (by decide) (KG_I (by decide) hb))
    | b + 2 =>
      exact Gy_eq (by rw [y_X3_beginWork]) Gy_no
theorem kg_y_X3_fail {P : Nat} : ∀ (k b : Nat) (L : LV) (σ : CS), KG P σ → Gy P (y_X3_fail k b L σ) := by
  intro k
  induction k with
  | zero => intro b L σ _; exact Gy_no
  | succ k ih =>
    intro b L σ hb
    match b with
    | 0 =>
      refine Gy_eq (by rw [y_X3_fail]) ?_
      exact Gy_so (KG_I (by decide) (KG_I (by decide) hb))
    | b + 1 =>
      exact Gy_eq (by rw [y_X3_fail]) Gy_no
theorem kg_y_X3_spend {P : Nat} : ∀ (k b : Nat) (L : LV) (σ : CS), KG P σ → Gy P (y_X3_spend k b L σ) := by
  intro k
  induction k with
  | zero => intro b L σ _; exact Gy_no
  | succ k ih =>
    intro b L σ hb
    match b with
    | 0 =>
      refine Gy_eq (by rw [y_X3_spend]) ?_
      exact Gy_ite (ih _ _ _ (KG_I (by decide) hb)) (ih _ _ _ (KG_I (by decide) (KG_I (by decide) (KG_I (by decide) hb))))
    | 1 =>
      refine Gy_eq (by rw [y_X3_spend]) ?_
      exact Gy_so hb
    | b + 2 =>
      exact Gy_eq (by rw [y_X3_spend]) Gy_no
theorem kg_y_X3_pop {P : Nat} : ∀ (k b : Nat) (L : LV) (σ : CS), KG P σ → Gy P (y_X3_pop k b L σ) := by
  intro k
  induction k with
  | zero => intro b L σ _; exact Gy_no
  | succ k ih =>
    intro b L σ hb
    match b with
    | 0 =>
      refine Gy_eq (by rw [y_X3_pop]) ?_
      exact Gy_ite (Gy_so (KG_I (by decide) hb)) (Gy_no)
    | b + 1 =>
      exact Gy_eq (by rw [y_X3_pop]) Gy_no
theorem kg_y_X3_replace {P : Nat} : ∀ (k b : Nat) (L : LV) (σ : CS), KG P σ → Gy P (y_X3_replace k b L σ) := by
  intro k
  induction k with
  | zero => intro b L σ _; exact Gy_no
  | succ k ih =>
    intro b L σ hb
    match b with
    | 0 =>
      refine Gy_eq (by rw [y_X3_replace]) ?_
      exact Gy_oc (kg_y_X11_isError _ _ _ _ hb) (fun _ h385 => Gy_ite (ih _ _ _ h385) (Gy_oc (kg_y_X3_fail _ _ _ _ h385) (fun _ h386 => ih _ _ _ h386)))
    | 1 =>
      refine Gy_eq (by rw [y_X3_replace]) ?_
      exact Gy_ite (Gy_oc (kg_y_X1_size _ _ _ _ (KG_o hb rfl)) (fun _ h387 => Gy_oc (kg_y_X3_spend _ _ _ _ h387) (fun _ h388 => ih _ _ _ h388))) (Gy_no)
    | 2 =>
      refine Gy_eq (by rw [y_X3_replace]) ?_
      exact Gy_so hb
    | b + 3 =>
      exact Gy_eq (by rw [y_X3_replace]) Gy_no
theorem kg_y_X3_wantTruth {P : Nat} : ∀ (k b : Nat) (L : LV) (σ : CS), KG P σ → Gy P (y_X3_wantTruth k b L σ) := by
  intro k
  induction k with
  | zero => intro b L σ _; exact Gy_no
  | succ k ih =>
    intro b L σ hb
    match b with
    | 0 =>
      refine Gy_eq (by rw [y_X3_wantTruth]) ?_
      exact Gy_ite (ih _ _ _ hb) (Gy_ite (ih _ _ _ hb) (Gy_oc (kg_y_X3_fail _ _ _ _ hb) (fun _ h389 => Gy_so h389)))
    | 1 =>
      refine Gy_eq (by rw [y_X3_wantTruth]) ?_
      exact Gy_so hb
    | b + 2 =>
      exact Gy_eq (by rw [y_X3_wantTruth]) Gy_no
theorem kg_y_X3_shortcut {P : Nat} : ∀ (k b : Nat) (L : LV) (σ : CS), KG P σ → Gy P (y_X3_shortcut k b L σ) := by
  intro k
  induction k with
  | zero => intro b L σ _; exact Gy_no
  | succ k ih =>
    intro b L σ hb
    match b with
    | 0 =>
      refine Gy_eq (by rw [y_X3_shortcut]) ?_
      exact Gy_ite (Gy_oc (kg_y_X3_wantTruth _ _ _ _ hb) (fun _ h390 => Gy_ite (Gy_so h390) (ih _ _ _ h390))) (Gy_no)
    | 1 =>
      refine Gy_eq (by rw [y_X3_shortcut]) ?_
      exact Gy_ite (Gy_oc (kg_y_X3_spend _ _ _ _ (KG_I (by decide) hb)) (fun _ h391 => ih _ _ _ h391)) (ih _ _ _ hb)
    | 2 =>
      refine Gy_eq (by rw [y_X3_shortcut]) ?_
      exact ih _ _ _ (KG_I (by decide) hb)
    | 3 =>
      refine Gy_eq (by rw [y_X3_shortcut]) ?_
      exact Gy_so hb
    | b + 4 =>
      exact Gy_eq (by rw [y_X3_shortcut]) Gy_no
theorem kg_y_X11_unraw {P : Nat} : ∀ (k b : Nat) (L : LV) (σ : CS), KG P σ → Gy P (y_X11_unraw k b L σ) := by
  intro k
  induction k with
  | zero => intro b L σ _; exact Gy_no
  | succ k ih =>
    intro b L σ hb
    match b with
    | 0 =>
      refine Gy_eq (by rw [y_X11_unraw]) ?_
      exact Gy_so hb
    | b + 1 =>
      exact Gy_eq (by rw [y_X11_unraw]) Gy_no
theorem kg_y_X3_endProc {P : Nat} : ∀ (k b : Nat) (L : LV) (σ : CS), KG P σ → Gy P (y_X3_endProc k b L σ) := by
  intro k
  induction k with
  | zero => intro b L σ _; exact Gy_no
  | succ k ih =>
    intro b L σ hb
    match b with
    | 0 =>
      refine Gy_eq (by rw [y_X3_endProc]) ?_
      exact Gy_oc (kg_y_X3_pop _ _ _ _ hb) (fun _ h392 => Gy_oB (fun _ => Gy_ite (Gy_oc (kg_y_X11_unraw _ _ _ _ h392) (fun _ h393 => Gy_ite (Gy_ite (Gy_oc (kg_y_X11_unraw _ _ _ _ h393) (fun _ h394 => ih _ _ _ (KG_I (by decide) h394))) (Gy_no)) (Gy_no))) (Gy_no)))
    | 1 =>
      refine Gy_eq (by rw [y_X3_endProc]) ?_
      exact Gy_ite (Gy_oc (kg_y_X11_unraw _ _ _ _ hb) (fun _ h395 => ih _ _ _ (KG_I (by decide) (KG_I (by decide) h395)))) (Gy_no)
    | 2 =>
      refine Gy_eq (by rw [y_X3_endProc]) ?_
      exact Gy_ite (Gy_oc (kg_y_X11_unraw _ _ _ _ (KG_I (by decide) hb)) (fun _ h396 => ih _ _ _ (KG_I (by decide) h396))) (Gy_no)
    | 3 =>
      refine Gy_eq (by rw [y_X3_endProc]) ?_
      exact Gy_ite (ih _ _ _ (KG_o hb rfl)) (Gy_no)
    | 4 =>
      refine Gy_eq (by rw [y_X3_endProc]) ?_
      exact Gy_ite (ih _ _ _ hb) (Gy_ite (Gy_ite (ih _ _ _ (KG_o hb rfl)) (Gy_no)) (Gy_no))
    | 5 =>
      refine Gy_eq (by rw [y_X3_endProc]) ?_
      exact Gy_so (KG_I (by decide) hb)
    | b + 6 =>
      exact Gy_eq (by rw [y_X3_endProc]) Gy_no
theorem kg_y_X3_countOut {P : Nat} : ∀ (k b : Nat) (L : LV) (σ : CS), KG P σ → Gy P (y_X3_countOut k b L σ) := by
  intro k
  induction k with
  | zero => intro b L σ _; exact Gy_no
  | succ k ih =>
    intro b L σ hb
    match b with
    | 0 =>
      refine Gy_eq (by rw [y_X3_countOut]) ?_
      exact Gy_so (KG_I (by decide) hb)
    | b + 1 =>
      exact Gy_eq (by rw [y_X3_countOut]) Gy_no
theorem kg_y_X3_nextDraw {P : Nat} : ∀ (k b : Nat) (L : LV) (σ : CS), KG P σ → Gy P (y_X3_nextDraw k b L σ) := by
  intro k
  induction k with
  | zero => intro b L σ _; exact Gy_no
  | succ k ih =>
    intro b L σ hb
    match b with
    | 0 =>
      refine Gy_eq (by rw [y_X3_nextDraw]) ?_
      exact Gy_ite (ih _ _ _ (KG_o hb rfl)) (Gy_ite (Gy_no) (ih _ _ _ (KG_o hb rfl)))
    | 1 =>
      refine Gy_eq (by rw [y_X3_nextDraw]) ?_
      exact ih _ _ _ hb
    | 2 =>
      refine Gy_eq (by rw [y_X3_nextDraw]) ?_
      exact Gy_so hb
    | b + 3 =>
      exact Gy_eq (by rw [y_X3_nextDraw]) Gy_no
theorem kg_y_X3_drawn {P : Nat} : ∀ (k b : Nat) (L : LV) (σ : CS), KG P σ → Gy P (y_X3_drawn k b L σ) := by
  intro k
  induction k with
  | zero => intro b L σ _; exact Gy_no
  | succ k ih =>
    intro b L σ hb
    match b with
    | 0 =>
      refine Gy_eq (by rw [y_X3_drawn]) ?_
      exact Gy_oc (kg_y_X1_kind _ _ _ _ hb) (fun _ h397 => Gy_ite (ih _ _ _ h397) (Gy_oc (kg_y_X1_length _ _ _ _ h397) (fun _ h398 => Gy_ite (ih _ _ _ h398) (ih _ _ _ h398))))
    | 1 =>
      refine Gy_eq (by rw [y_X3_drawn]) ?_
      exact Gy_ite (ih _ _ _ hb) (Gy_so hb)
    | 2 =>
      refine Gy_eq (by rw [y_X3_drawn]) ?_
      exact Gy_oc (kg_y_X3_nextDraw _ _ _ _ hb) (fun _ h399 => Gy_oc (kg_y_X1_taken _ _ _ _ h399) (fun _ h400 => ih _ _ _ h400))
    | 3 =>
      refine Gy_eq (by rw [y_X3_drawn]) ?_
      exact Gy_so hb
    | 4 =>
      refine Gy_eq (by rw [y_X3_drawn]) ?_
      exact Gy_ite (ih _ _ _ hb) (Gy_oc (kg_y_X10_number _ _ _ _ hb) (fun _ h401 => ih _ _ _ h401))
    | 5 =>
      refine Gy_eq (by rw [y_X3_drawn]) ?_
      exact Gy_oc (kg_y_X1_length _ _ _ _ hb) (fun _ h402 => Gy_ite (Gy_ite (ih _ _ _ h402) (Gy_no)) (ih _ _ _ h402))
    | 6 =>
      refine Gy_eq (by rw [y_X3_drawn]) ?_
      exact Gy_ite (ih _ _ _ hb) (Gy_oc (kg_y_X10_isBelow _ _ _ _ hb) (fun _ h403 => Gy_ite (ih _ _ _ h403) (ih _ _ _ h403)))
    | 7 =>
      refine Gy_eq (by rw [y_X3_drawn]) ?_
      exact ih _ _ _ hb
    | 8 =>
      refine Gy_eq (by rw [y_X3_drawn]) ?_
      exact Gy_so hb
    | 9 =>
      refine Gy_eq (by rw [y_X3_drawn]) ?_
      exact Gy_oc (kg_y_X3_nextDraw _ _ _ _ hb) (fun _ h404 => Gy_oc (kg_y_X10_of _ _ _ _ h404) (fun _ h405 => Gy_so h405))
    | b + 10 =>
      exact Gy_eq (by rw [y_X3_drawn]) Gy_no
theorem kg_y_X11_raw {P : Nat} : ∀ (k b : Nat) (L : LV) (σ : CS), KG P σ → Gy P (y_X11_raw k b L σ) := by
  intro k
  induction k with
  | zero => intro b L σ _; exact Gy_no
  | succ k ih =>
    intro b L σ hb
    match b with
    | 0 =>
      refine Gy_eq (by rw [y_X11_raw]) ?_
      exact Gy_so hb
    | b + 1 =>
      exact Gy_eq (by rw [y_X11_raw]) Gy_no
theorem kg_y_X3_assign {P : Nat} : ∀ (k b : Nat) (L : LV) (σ : CS), KG P σ → Gy P (y_X3_assign k b L σ) := by
  intro k
  induction k with
  | zero => intro b L σ _; exact Gy_no
  | succ k ih =>
    intro b L σ hb
    match b with
    | 0 =>
      refine Gy_eq (by rw [y_X3_assign]) ?_
      exact Gy_oc (kg_y_X1_size _ _ _ _ hb) (fun _ h406 => Gy_ite (Gy_oc (kg_y_X1_size _ _ _ _ h406) (fun _ h407 => Gy_ite (ih _ _ _ h407) (Gy_ite (ih _ _ _ h407) (Gy_oc (kg_y_X3_fail _ _ _ _ h407) (fun _ h408 => Gy_so h408))))) (Gy_no))
    | 1 =>
      refine Gy_eq (by rw [y_X3_assign]) ?_
      exact Gy_ite (ih _ _ _ (KG_I (by decide) hb)) (ih _ _ _ (KG_I (by decide) hb))
    | 2 =>
      refine Gy_eq (by rw [y_X3_assign]) ?_
      exact ih _ _ _ hb
    | 3 =>
      refine Gy_eq (by rw [y_X3_assign]) ?_
      exact Gy_ite (Gy_so (KG_o (KG_I (by decide) hb) rfl)) (Gy_no)
    | b + 4 =>
      exact Gy_eq (by rw [y_X3_assign]) Gy_no
theorem kg_y_X3_letGo__z20 {P : Nat} : ∀ (k b : Nat) (L : LV) (σ : CS), KG P σ → Gy P (y_X3_letGo__z20 k b L σ) := by
  intro k
  induction k with
  | zero => intro b L σ _; exact Gy_no
  | succ k ih =>
    intro b L σ hb
    match b with
    | 0 =>
      refine Gy_eq (by rw [y_X3_letGo__z20]) ?_
      exact Gy_ite (ih _ _ _ hb) (Gy_ite (Gy_ite (ih _ _ _ hb) (Gy_ite (Gy_oc (kg_y_X1_size _ _ _ _ hb) (fun _ h409 => ih _ _ _ (KG_I (by decide) (KG_I (by decide) h409)))) (Gy_no))) (Gy_no))
    | 1 =>
      refine Gy_eq (by rw [y_X3_letGo__z20]) ?_
      exact Gy_ite (Gy_ite (Gy_so (KG_o (KG_o hb rfl) rfl)) (Gy_no)) (Gy_no)
    | b + 2 =>
      exact Gy_eq (by rw [y_X3_letGo__z20]) Gy_no
theorem kg_y_X3_clearFor {P : Nat} : ∀ (k b : Nat) (L : LV) (σ : CS), KG P σ → Gy P (y_X3_clearFor k b L σ) := by
  intro k
  induction k with
  | zero => intro b L σ _; exact Gy_no
  | succ k ih =>
    intro b L σ hb
    match b with
    | 0 =>
      refine Gy_eq (by rw [y_X3_clearFor]) ?_
      exact Gy_oc (kg_y_X3_letGo__z20 _ _ _ _ hb) (fun _ h410 => ih _ _ _ h410)
    | 1 =>
      refine Gy_eq (by rw [y_X3_clearFor]) ?_
      exact Gy_ite (ih _ _ _ hb) (Gy_oc (kg_y_X3_assign _ _ _ _ hb) (fun _ h411 => ih _ _ _ h411))
    | 2 =>
      refine Gy_eq (by rw [y_X3_clearFor]) ?_
      exact Gy_so hb
    | b + 3 =>
      exact Gy_eq (by rw [y_X3_clearFor]) Gy_no
theorem kg_y_X6_put {P : Nat} : ∀ (k b : Nat) (L : LV) (σ : CS), KG P σ → Gy P (y_X6_put k b L σ) := by
  intro k
  induction k with
  | zero => intro b L σ _; exact Gy_no
  | succ k ih =>
    intro b L σ hb
    match b with
    | 0 =>
      refine Gy_eq (by rw [y_X6_put]) ?_
      exact Gy_ite (ih _ _ _ hb) (Gy_ite (ih _ _ _ (KG_I (by decide) (KG_o hb rfl))) (Gy_no))
    | 1 =>
      refine Gy_eq (by rw [y_X6_put]) ?_
      exact Gy_so hb
    | b + 2 =>
      exact Gy_eq (by rw [y_X6_put]) Gy_no
theorem kg_y_X1_copyBytes__a13 {P : Nat} : ∀ (k b : Nat) (L : LV) (σ : CS), KG P σ → Gy P (y_X1_copyBytes__a13 k b L σ) := by
  intro k
  induction k with
  | zero => intro b L σ _; exact Gy_no
  | succ k ih =>
    intro b L σ hb
    match b with
    | 0 =>
      refine Gy_eq (by rw [y_X1_copyBytes__a13]) ?_
      exact ih _ _ _ hb
    | 1 =>
      refine Gy_eq (by rw [y_X1_copyBytes__a13]) ?_
      exact Gy_ite (ih _ _ _ hb) (Gy_ite (ih _ _ _ hb) (Gy_ite (ih _ _ _ hb) (ih _ _ _ hb)))
    | 2 =>
      refine Gy_eq (by rw [y_X1_copyBytes__a13]) ?_
      exact Gy_so hb
    | 3 =>
      refine Gy_eq (by rw [y_X1_copyBytes__a13]) ?_
      exact Gy_ite (ih _ _ _ hb) (Gy_no)
    | 4 =>
      refine Gy_eq (by rw [y_X1_copyBytes__a13]) ?_
      exact Gy_ite (ih _ _ _ (KG_o hb rfl)) (Gy_no)
    | b + 5 =>
      exact Gy_eq (by rw [y_X1_copyBytes__a13]) Gy_no
theorem kg_y_X6_writeBytes {P : Nat} : ∀ (k b : Nat) (L : LV) (σ : CS), KG P σ → Gy P (y_X6_writeBytes k b L σ) := by
  intro k
  induction k with
  | zero => intro b L σ _; exact Gy_no
  | succ k ih =>
    intro b L σ hb
    match b with
    | 0 =>
      refine Gy_eq (by rw [y_X6_writeBytes]) ?_
      exact Gy_oc (kg_y_X1_length _ _ _ _ hb) (fun _ h412 => Gy_oc (kg_y_X1_copyBytes__a13 _ _ _ _ h412) (fun _ h413 => Gy_so (KG_I (by decide) h413)))
    | b + 1 =>
      exact Gy_eq (by rw [y_X6_writeBytes]) Gy_no
theorem kg_y_X1_makeString__a13 {P : Nat} : ∀ (k b : Nat) (L : LV) (σ : CS), KG P σ → Gy P (y_X1_makeString__a13 k b L σ) := by
  intro k
  induction k with
  | zero => intro b L σ _; exact Gy_no
  | succ k ih =>
    intro b L σ hb
    match b with
    | 0 =>
      refine Gy_eq (by rw [y_X1_makeString__a13]) ?_
      exact Gy_ite (ih _ _ _ hb) (Gy_ite (ih _ _ _ hb) (ih _ _ _ hb))
    | 1 =>
      refine Gy_eq (by rw [y_X1_makeString__a13]) ?_
      exact Gy_ite (ih _ _ _ hb) (Gy_so hb)
    | 2 =>
      refine Gy_eq (by rw [y_X1_makeString__a13]) ?_
      exact Gy_ite (ih _ _ _ hb) (Gy_no)
    | 3 =>
      refine Gy_eq (by rw [y_X1_makeString__a13]) ?_
      exact Gy_so hb
    | 4 =>
      refine Gy_eq (by rw [y_X1_makeString__a13]) ?_
      exact Gy_ite (ih _ _ _ hb) (Gy_so hb)
    | 5 =>
      refine Gy_eq (by rw [y_X1_makeString__a13]) ?_
      exact Gy_oc (kg_y_X1_header _ _ _ _ (KG_I (by decide) hb)) (fun _ h414 => Gy_ite (ih _ _ _ (KG_o h414 rfl)) (Gy_no))
    | 6 =>
      refine Gy_eq (by rw [y_X1_makeString__a13]) ?_
      exact ih _ _ _ hb
    | 7 =>
      refine Gy_eq (by rw [y_X1_makeString__a13]) ?_
      exact Gy_ite (ih _ _ _ hb) (Gy_ite (Gy_ite (ih _ _ _ hb) (Gy_ite (ih _ _ _ hb) (ih _ _ _ hb))) (Gy_no))
    | 8 =>
      refine Gy_eq (by rw [y_X1_makeString__a13]) ?_
      exact Gy_so hb
    | 9 =>
      refine Gy_eq (by rw [y_X1_makeString__a13]) ?_
      exact Gy_ite (ih _ _ _ (KG_o hb rfl)) (Gy_no)
    | 10 =>
      refine Gy_eq (by rw [y_X1_makeString__a13]) ?_
      exact ih _ _ _ hb
    | b + 11 =>
      exact Gy_eq (by rw [y_X1_makeString__a13]) Gy_no
theorem kg_y_X6_madeString {P : Nat} : ∀ (k b : Nat) (L : LV) (σ : CS), KG P σ → Gy P (y_X6_madeString k b L σ) := by
  intro k
  induction k with
  | zero => intro b L σ _; exact Gy_no
  | succ k ih =>
    intro b L σ hb
    match b with
    | 0 =>
      refine Gy_eq (by rw [y_X6_madeString]) ?_
      exact Gy_oc (kg_y_X1_makeString__a13 _ _ _ _ hb) (fun _ h415 => Gy_so h415)
    | b + 1 =>
      exact Gy_eq (by rw [y_X6_madeString]) Gy_no
theorem kg_y_X9_drop {P : Nat} : ∀ (k b : Nat) (L : LV) (σ : CS), KG P σ → Gy P (y_X9_drop k b L σ) := by
  intro k
  induction k with
  | zero => intro b L σ _; exact Gy_no
  | succ k ih =>
    intro b L σ hb
    match b with
    | 0 =>
      refine Gy_eq (by rw [y_X9_drop]) ?_
      exact ih _ _ _ (KG_I (by decide) (KG_I (by decide) (KG_I (by decide) hb)))
    | 1 =>
      refine Gy_eq (by rw [y_X9_drop]) ?_
      exact Gy_so hb
    | b + 2 =>
      exact Gy_eq (by rw [y_X9_drop]) Gy_no
theorem kg_y_X9_expect {P : Nat} : ∀ (k b : Nat) (L : LV) (σ : CS), KG P σ → Gy P (y_X9_expect k b L σ) := by
  intro k
  induction k with
  | zero => intro b L σ _; exact Gy_no
  | succ k ih =>
    intro b L σ hb
    match b with
    | 0 =>
      refine Gy_eq (by rw [y_X9_expect]) ?_
      exact Gy_ite (ih _ _ _ hb) (ih _ _ _ hb)
    | 1 =>
      refine Gy_eq (by rw [y_X9_expect]) ?_
      exact ih _ _ _ hb
    | 2 =>
      refine Gy_eq (by rw [y_X9_expect]) ?_
      exact Gy_so (KG_I (by decide) hb)
    | b + 3 =>
      exact Gy_eq (by rw [y_X9_expect]) Gy_no
theorem kg_y_X10_load__a7 {P : Nat} : ∀ (k b : Nat) (L : LV) (σ : CS), KG P σ → Gy P (y_X10_load__a7 k b L σ) := by
  intro k
  induction k with
  | zero => intro b L σ _; exact Gy_no
  | succ k ih =>
    intro b L σ hb
    match b with
    | 0 =>
      refine Gy_eq (by rw [y_X10_load__a7]) ?_
      exact Gy_ite (ih _ _ _ hb) (Gy_ite (ih _ _ _ hb) (ih _ _ _ hb))
    | 1 =>
      refine Gy_eq (by rw [y_X10_load__a7]) ?_
      exact Gy_ite (Gy_ite (Gy_so (KG_o hb rfl)) (Gy_no)) (Gy_no)
    | 2 =>
      refine Gy_eq (by rw [y_X10_load__a7]) ?_
      exact ih _ _ _ hb
    | 3 =>
      refine Gy_eq (by rw [y_X10_load__a7]) ?_
      exact Gy_ite (Gy_ite (ih _ _ _ (KG_o hb rfl)) (ih _ _ _ (KG_o hb rfl))) (Gy_no)
    | 4 =>
      refine Gy_eq (by rw [y_X10_load__a7]) ?_
      exact ih _ _ _ hb
    | 5 =>
      refine Gy_eq (by rw [y_X10_load__a7]) ?_
      exact Gy_so hb
    | b + 6 =>
      exact Gy_eq (by rw [y_X10_load__a7]) Gy_no
theorem kg_y_X10_negated {P : Nat} : ∀ (k b : Nat) (L : LV) (σ : CS), KG P σ → Gy P (y_X10_negated k b L σ) := by
  intro k
  induction k with
  | zero => intro b L σ _; exact Gy_no
  | succ k ih =>
    intro b L σ hb
    match b with
    | 0 =>
      refine Gy_eq (by rw [y_X10_negated]) ?_
      exact Gy_oc (kg_y_X10_load__a7 _ _ _ _ hb) (fun _ h416 => Gy_oc (kg_y_X10_isBelow _ _ _ _ h416) (fun _ h417 => Gy_ite (ih _ _ _ h417) (ih _ _ _ h417)))
    | 1 =>
      refine Gy_eq (by rw [y_X10_negated]) ?_
      exact ih _ _ _ hb
    | 2 =>
      refine Gy_eq (by rw [y_X10_negated]) ?_
      exact Gy_oc (kg_y_X10_made _ _ _ _ hb) (fun _ h418 => Gy_so h418)
    | b + 3 =>
      exact Gy_eq (by rw [y_X10_negated]) Gy_no
theorem kg_y_X10_absolute {P : Nat} : ∀ (k b : Nat) (L : LV) (σ : CS), KG P σ → Gy P (y_X10_absolute k b L σ) := by
  intro k
  induction k with
  | zero => intro b L σ _; exact Gy_no
  | succ k ih =>
    intro b L σ hb
    match b with
    | 0 =>
      refine Gy_eq (by rw [y_X10_absolute]) ?_
      exact Gy_oc (kg_y_X10_isBelow _ _ _ _ hb) (fun _ h419 => Gy_ite (ih _ _ _ h419) (Gy_oc (kg_y_X10_negated _ _ _ _ h419) (fun _ h420 => ih _ _ _ h420)))
    | 1 =>
      refine Gy_eq (by rw [y_X10_absolute]) ?_
      exact ih _ _ _ hb
    | 2 =>
      refine Gy_eq (by rw [y_X10_absolute]) ?_
      exact Gy_so hb
    | b + 3 =>
      exact Gy_eq (by rw [y_X10_absolute]) Gy_no
theorem kg_y_X10_takeBillion {P : Nat} : ∀ (k b : Nat) (L : LV) (σ : CS), KG P σ → Gy P (y_X10_takeBillion k b L σ) := by
  intro k
  induction k with
  | zero => intro b L σ _; exact Gy_no
  | succ k ih =>
    intro b L σ hb
    match b with
    | 0 =>
      refine Gy_eq (by rw [y_X10_takeBillion]) ?_
      exact ih _ _ _ hb
    | 1 =>
      refine Gy_eq (by rw [y_X10_takeBillion]) ?_
      exact Gy_ite (ih _ _ _ hb) (Gy_ite (Gy_ite (Gy_no) (Gy_ite (Gy_ite (Gy_no) (ih _ _ _ (KG_o hb rfl))) (Gy_no))) (Gy_no))
    | 2 =>
      refine Gy_eq (by rw [y_X10_takeBillion]) ?_
      exact Gy_so hb
    | b + 3 =>
      exact Gy_eq (by rw [y_X10_takeBillion]) Gy_no
theorem kg_y_X10_writeChunk__a13 {P : Nat} : ∀ (k b : Nat) (L : LV) (σ : CS), KG P σ → Gy P (y_X10_writeChunk__a13 k b L σ) := by
  intro k
  induction k with
  | zero => intro b L σ _; exact Gy_no
  | succ k ih =>
    intro b L σ hb
    match b with
    | 0 =>
      refine Gy_eq (by rw [y_X10_writeChunk__a13]) ?_
      exact ih _ _ _ hb
    | 1 =>
      refine Gy_eq (by rw [y_X10_writeChunk__a13]) ?_
      exact Gy_ite (ih _ _ _ hb) (Gy_ite (ih _ _ _ hb) (Gy_ite (ih _ _ _ hb) (Gy_ite (Gy_no) (ih _ _ _ hb))))
    | 2 =>
      refine Gy_eq (by rw [y_X10_writeChunk__a13]) ?_
      exact ih _ _ _ hb
    | 3 =>
      refine Gy_eq (by rw [y_X10_writeChunk__a13]) ?_
      exact Gy_ite (ih _ _ _ hb) (Gy_ite (Gy_no) (Gy_ite (Gy_ite (Gy_no) (ih _ _ _ (KG_o hb rfl))) (Gy_no)))
    | 4 =>
      refine Gy_eq (by rw [y_X10_writeChunk__a13]) ?_
      exact Gy_so hb
    | b + 5 =>
      exact Gy_eq (by rw [y_X10_writeChunk__a13]) Gy_no
theorem kg_y_X10_writeDigits__a13 {P : Nat} : ∀ (k b : Nat) (L : LV) (σ : CS), KG P σ → Gy P (y_X10_writeDigits__a13 k b L σ) := by
  intro k
  induction k with
  | zero => intro b L σ _; exact Gy_no
  | succ k ih =>
    intro b L σ hb
    match b with
    | 0 =>
      refine Gy_eq (by rw [y_X10_writeDigits__a13]) ?_
      exact Gy_ite (ih _ _ _ hb) (Gy_ite (ih _ _ _ hb) (ih _ _ _ hb))
    | 1 =>
      refine Gy_eq (by rw [y_X10_writeDigits__a13]) ?_
      exact Gy_so hb
    | 2 =>
      refine Gy_eq (by rw [y_X10_writeDigits__a13]) ?_
      exact Gy_oc (kg_y_X10_isBelow _ _ _ _ hb) (fun _ h421 => Gy_ite (ih _ _ _ h421) (Gy_ite (ih _ _ _ (KG_o h421 rfl)) (Gy_no)))
    | 3 =>
      refine Gy_eq (by rw [y_X10_writeDigits__a13]) ?_
      exact Gy_oc (kg_y_X10_load__a5 _ _ _ _ hb) (fun _ h422 => ih _ _ _ h422)
    | 4 =>
      refine Gy_eq (by rw [y_X10_writeDigits__a13]) ?_
      exact Gy_ite (ih _ _ _ hb) (Gy_ite (ih _ _ _ hb) (Gy_ite (ih _ _ _ hb) (ih _ _ _ hb)))
    | 5 =>
      refine Gy_eq (by rw [y_X10_writeDigits__a13]) ?_
      exact ih _ _ _ hb
    | 6 =>
      refine Gy_eq (by rw [y_X10_writeDigits__a13]) ?_
      exact Gy_oc (kg_y_X10_takeBillion _ _ _ _ hb) (fun _ h423 => Gy_ite (Gy_ite (ih _ _ _ (KG_o h423 rfl)) (Gy_ite (Gy_ite (ih _ _ _ (KG_o h423 rfl)) (ih _ _ _ (KG_o h423 rfl))) (Gy_no))) (Gy_no))
    | 7 =>
      refine Gy_eq (by rw [y_X10_writeDigits__a13]) ?_
      exact Gy_ite (ih _ _ _ hb) (Gy_ite (Gy_ite (ih _ _ _ hb) (ih _ _ _ hb)) (Gy_no))
    | 8 =>
      refine Gy_eq (by rw [y_X10_writeDigits__a13]) ?_
      exact ih _ _ _ hb
    | 9 =>
      refine Gy_eq (by rw [y_X10_writeDigits__a13]) ?_
      exact ih _ _ _ hb
    | 10 =>
      refine Gy_eq (by rw [y_X10_writeDigits__a13]) ?_
      exact Gy_so hb
    | 11 =>
      refine Gy_eq (by rw [y_X10_writeDigits__a13]) ?_
      exact ih _ _ _ hb
    | 12 =>
      refine Gy_eq (by rw [y_X10_writeDigits__a13]) ?_
      exact Gy_oc (kg_y_X10_writeChunk__a13 _ _ _ _ hb) (fun _ h424 => ih _ _ _ h424)
    | b + 13 =>
      exact Gy_eq (by rw [y_X10_writeDigits__a13]) Gy_no
theorem kg_f_X6_writeWord__ek14 {P : Nat} : ∀ (k b : Nat) (L : LV) (σ : CS), KG P σ → Gf P (f_X6_writeWord__ek14 k b L σ) := by
  intro k
  induction k with
  | zero => intro b L σ _; exact Gf_no
  | succ k ih =>
    intro b L σ hb
    match b with
    | 0 =>
      refine Gf_eq (by rw [f_X6_writeWord__ek14]) ?_
      exact ih _ _ _ hb
    | 1 =>
      refine Gf_eq (by rw [f_X6_writeWord__ek14]) ?_
      exact Gf_ite (ih _ _ _ hb) (Gf_ite (Gf_op (kg_y_X6_put _ _ _ _ hb) (fun _ h425 => ih _ _ _ h425)) (Gf_no))
    | 2 =>
      refine Gf_eq (by rw [f_X6_writeWord__ek14]) ?_
      exact Gf_so hb
    | b + 3 =>
      exact Gf_eq (by rw [f_X6_writeWord__ek14]) Gf_no
theorem kg_f_X6_writeWord__ek16 {P : Nat} : ∀ (k b : Nat) (L : LV) (σ : CS), KG P σ → Gf P (f_X6_writeWord__ek16 k b L σ) := by
  intro k
  induction k with
  | zero => intro b L σ _; exact Gf_no
  | succ k ih =>
    intro b L σ hb
    match b with
    | 0 =>
      refine Gf_eq (by rw [f_X6_writeWord__ek16]) ?_
      exact ih _ _ _ hb
    | 1 =>
      refine Gf_eq (by rw [f_X6_writeWord__ek16]) ?_
      exact Gf_ite (ih _ _ _ hb) (Gf_ite (Gf_op (kg_y_X6_put _ _ _ _ hb) (fun _ h426 => ih _ _ _ h426)) (Gf_no))
    | 2 =>
      refine Gf_eq (by rw [f_X6_writeWord__ek16]) ?_
      exact Gf_so hb
    | b + 3 =>
      exact Gf_eq (by rw [f_X6_writeWord__ek16]) Gf_no
theorem kg_f_X6_writeWord__ek18 {P : Nat} : ∀ (k b : Nat) (L : LV) (σ : CS), KG P σ → Gf P (f_X6_writeWord__ek18 k b L σ) := by
  intro k
  induction k with
  | zero => intro b L σ _; exact Gf_no
  | succ k ih =>
    intro b L σ hb
    match b with
    | 0 =>
      refine Gf_eq (by rw [f_X6_writeWord__ek18]) ?_
      exact ih _ _ _ hb
    | 1 =>
      refine Gf_eq (by rw [f_X6_writeWord__ek18]) ?_
      exact Gf_ite (ih _ _ _ hb) (Gf_ite (Gf_op (kg_y_X6_put _ _ _ _ hb) (fun _ h427 => ih _ _ _ h427)) (Gf_no))
    | 2 =>
      refine Gf_eq (by rw [f_X6_writeWord__ek18]) ?_
      exact Gf_so hb
    | b + 3 =>
      exact Gf_eq (by rw [f_X6_writeWord__ek18]) Gf_no
theorem kg_t_X6_write {P : Nat} {X : Nat → Nat → Nat → LV → CS → Option RS} (hX : ∀ e m b L (σ : CS), KG P σ → Gf P (X e m b L σ)) (K d b : Nat) (L : LV) (σ : CS) (hb : KG P σ) : Gf P (t_X6_write X K d b L σ) := by
  match b with
  | 0 => exact Gf_op (kg_y_X1_kind _ _ _ _ hb) (fun _ h428 => Gf_ite (hX _ _ _ _ _ h428) (Gf_ite (hX _ _ _ _ _ h428) (Gf_ite (hX _ _ _ _ _ h428) (Gf_ite (hX _ _ _ _ _ h428) (Gf_ite (hX _ _ _ _ _ h428) (Gf_ite (hX _ _ _ _ _ h428) (hX _ _ _ _ _ h428)))))))
  | 1 => exact Gf_ite (hX _ _ _ _ _ hb) (hX _ _ _ _ _ hb)
  | 2 => exact Gf_op (kg_y_X10_writeDigits__a13 _ _ _ _ hb) (fun _ h429 => hX _ _ _ _ _ (KG_I (by decide) h429))
  | 3 => exact Gf_op (kg_y_X6_put _ _ _ _ hb) (fun _ h430 => Gf_op (kg_y_X10_small _ _ _ _ h430) (fun _ h431 => Gf_op (kg_y_X10_writeDigits__a13 _ _ _ _ h431) (fun _ h432 => hX _ _ _ _ _ (KG_I (by decide) h432))))
  | 4 => exact Gf_op (kg_y_X6_put _ _ _ _ hb) (fun _ h433 => Gf_op (kg_y_X6_writeBytes _ _ _ _ h433) (fun _ h434 => Gf_op (kg_y_X6_put _ _ _ _ h434) (fun _ h435 => hX _ _ _ _ _ h435)))
  | 5 => exact Gf_of (fun _ => Gf_ox (hX _ _ _ _ _ hb) (fun _ h436 => hX _ _ _ _ _ h436))
  | 6 => exact Gf_of (fun _ => Gf_ox (hX _ _ _ _ _ hb) (fun _ h437 => hX _ _ _ _ _ h437))
  | 7 => exact Gf_ox (kg_f_X6_writeWord__ek14 _ _ _ _ hb) (fun _ h438 => hX _ _ _ _ _ h438)
  | 8 => exact hX _ _ _ _ _ hb
  | 9 => exact Gf_ox (kg_f_X6_writeWord__ek16 _ _ _ _ hb) (fun _ h439 => hX _ _ _ _ _ h439)
  | 10 => exact Gf_so hb
  | 11 => exact Gf_ox (kg_f_X6_writeWord__ek18 _ _ _ _ hb) (fun _ h440 => hX _ _ _ _ _ h440)
  | b + 12 => exact Gf_no
theorem kg_t_X6_writeRow {P : Nat} {X : Nat → Nat → Nat → LV → CS → Option RS} (hX : ∀ e m b L (σ : CS), KG P σ → Gf P (X e m b L σ)) (K d b : Nat) (L : LV) (σ : CS) (hb : KG P σ) : Gf P (t_X6_writeRow X K d b L σ) := by
  match b with
  | 0 => exact Gf_op (kg_y_X6_put _ _ _ _ hb) (fun _ h441 => Gf_op (kg_y_X1_length _ _ _ _ h441) (fun _ h442 => hX _ _ _ _ _ h442))
  | 1 => exact Gf_ite (hX _ _ _ _ _ hb) (Gf_ite (hX _ _ _ _ _ hb) (Gf_op (kg_y_X6_put _ _ _ _ hb) (fun _ h443 => Gf_op (kg_y_X6_put _ _ _ _ h443) (fun _ h444 => hX _ _ _ _ _ h444))))
  | 2 => exact Gf_op (kg_y_X6_put _ _ _ _ hb) (fun _ h445 => Gf_so h445)
  | 3 => exact Gf_op (kg_y_X1_member _ _ _ _ hb) (fun _ h446 => Gf_of (fun _ => Gf_ox (hX _ _ _ _ _ h446) (fun _ h447 => hX _ _ _ _ _ h447)))
  | b + 4 => exact Gf_no
theorem kg_f_F1 {P : Nat} : ∀ (k d m b : Nat) (L : LV) (σ : CS), KG P σ → Gf P (f_F1 k d m b L σ) := by
  intro k
  induction k with
  | zero => intro d m b L σ _; exact Gf_no
  | succ k ih =>
    intro d m b L σ hb
    match m with
    | 0 => exact kg_t_X6_write ih k d b L σ hb
    | 1 => exact kg_t_X6_writeRow ih k d b L σ hb
    | m + 2 => exact Gf_no
theorem kg_f_X6_write {P : Nat} (k b : Nat) (L : LV) (σ : CS) (hb : KG P σ) : Gf P (f_X6_write k b L σ) := kg_f_F1 k 80 0 b L σ hb
theorem kg_f_X6_print {P : Nat} : ∀ (k b : Nat) (L : LV) (σ : CS), KG P σ → Gf P (f_X6_print k b L σ) := by
  intro k
  induction k with
  | zero => intro b L σ _; exact Gf_no
  | succ k ih =>
    intro b L σ hb
    match b with
    | 0 =>
      refine Gf_eq (by rw [f_X6_print]) ?_
      exact Gf_ox (kg_f_X6_write _ _ _ _ (KG_I (by decide) hb)) (fun _ h448 => Gf_so h448)
    | b + 1 =>
      exact Gf_eq (by rw [f_X6_print]) Gf_no
theorem kg_f_X6_writeWord__ek2 {P : Nat} : ∀ (k b : Nat) (L : LV) (σ : CS), KG P σ → Gf P (f_X6_writeWord__ek2 k b L σ) := by
  intro k
  induction k with
  | zero => intro b L σ _; exact Gf_no
  | succ k ih =>
    intro b L σ hb
    match b with
    | 0 =>
      refine Gf_eq (by rw [f_X6_writeWord__ek2]) ?_
      exact ih _ _ _ hb
    | 1 =>
      refine Gf_eq (by rw [f_X6_writeWord__ek2]) ?_
      exact Gf_ite (ih _ _ _ hb) (Gf_ite (Gf_op (kg_y_X6_put _ _ _ _ hb) (fun _ h449 => ih _ _ _ h449)) (Gf_no))
    | 2 =>
      refine Gf_eq (by rw [f_X6_writeWord__ek2]) ?_
      exact Gf_so hb
    | b + 3 =>
      exact Gf_eq (by rw [f_X6_writeWord__ek2]) Gf_no
theorem kg_f_X6_word__ek2 {P : Nat} : ∀ (k b : Nat) (L : LV) (σ : CS), KG P σ → Gf P (f_X6_word__ek2 k b L σ) := by
  intro k
  induction k with
  | zero => intro b L σ _; exact Gf_no
  | succ k ih =>
    intro b L σ hb
    match b with
    | 0 =>
      refine Gf_eq (by rw [f_X6_word__ek2]) ?_
      exact Gf_ox (kg_f_X6_writeWord__ek2 _ _ _ _ (KG_I (by decide) hb)) (fun _ h450 => Gf_op (kg_y_X6_madeString _ _ _ _ h450) (fun _ h451 => Gf_so h451))
    | b + 1 =>
      exact Gf_eq (by rw [f_X6_word__ek2]) Gf_no
theorem kg_f_X6_writeWord__ek4 {P : Nat} : ∀ (k b : Nat) (L : LV) (σ : CS), KG P σ → Gf P (f_X6_writeWord__ek4 k b L σ) := by
  intro k
  induction k with
  | zero => intro b L σ _; exact Gf_no
  | succ k ih =>
    intro b L σ hb
    match b with
    | 0 =>
      refine Gf_eq (by rw [f_X6_writeWord__ek4]) ?_
      exact ih _ _ _ hb
    | 1 =>
      refine Gf_eq (by rw [f_X6_writeWord__ek4]) ?_
      exact Gf_ite (ih _ _ _ hb) (Gf_ite (Gf_op (kg_y_X6_put _ _ _ _ hb) (fun _ h452 => ih _ _ _ h452)) (Gf_no))
    | 2 =>
      refine Gf_eq (by rw [f_X6_writeWord__ek4]) ?_
      exact Gf_so hb
    | b + 3 =>
      exact Gf_eq (by rw [f_X6_writeWord__ek4]) Gf_no
theorem kg_f_X6_word__ek4 {P : Nat} : ∀ (k b : Nat) (L : LV) (σ : CS), KG P σ → Gf P (f_X6_word__ek4 k b L σ) := by
  intro k
  induction k with
  | zero => intro b L σ _; exact Gf_no
  | succ k ih =>
    intro b L σ hb
    match b with
    | 0 =>
      refine Gf_eq (by rw [f_X6_word__ek4]) ?_
      exact Gf_ox (kg_f_X6_writeWord__ek4 _ _ _ _ (KG_I (by decide) hb)) (fun _ h453 => Gf_op (kg_y_X6_madeString _ _ _ _ h453) (fun _ h454 => Gf_so h454))
    | b + 1 =>
      exact Gf_eq (by rw [f_X6_word__ek4]) Gf_no
theorem kg_f_X6_writeWord__ek6 {P : Nat} : ∀ (k b : Nat) (L : LV) (σ : CS), KG P σ → Gf P (f_X6_writeWord__ek6 k b L σ) := by
  intro k
  induction k with
  | zero => intro b L σ _; exact Gf_no
  | succ k ih =>
    intro b L σ hb
    match b with
    | 0 =>
      refine Gf_eq (by rw [f_X6_writeWord__ek6]) ?_
      exact ih _ _ _ hb
    | 1 =>
      refine Gf_eq (by rw [f_X6_writeWord__ek6]) ?_
      exact Gf_ite (ih _ _ _ hb) (Gf_ite (Gf_op (kg_y_X6_put _ _ _ _ hb) (fun _ h455 => ih _ _ _ h455)) (Gf_no))
    | 2 =>
      refine Gf_eq (by rw [f_X6_writeWord__ek6]) ?_
      exact Gf_so hb
    | b + 3 =>
      exact Gf_eq (by rw [f_X6_writeWord__ek6]) Gf_no
theorem kg_f_X6_word__ek6 {P : Nat} : ∀ (k b : Nat) (L : LV) (σ : CS), KG P σ → Gf P (f_X6_word__ek6 k b L σ) := by
  intro k
  induction k with
  | zero => intro b L σ _; exact Gf_no
  | succ k ih =>
    intro b L σ hb
    match b with
    | 0 =>
      refine Gf_eq (by rw [f_X6_word__ek6]) ?_
      exact Gf_ox (kg_f_X6_writeWord__ek6 _ _ _ _ (KG_I (by decide) hb)) (fun _ h456 => Gf_op (kg_y_X6_madeString _ _ _ _ h456) (fun _ h457 => Gf_so h457))
    | b + 1 =>
      exact Gf_eq (by rw [f_X6_word__ek6]) Gf_no
theorem kg_f_X6_writeWord__ek8 {P : Nat} : ∀ (k b : Nat) (L : LV) (σ : CS), KG P σ → Gf P (f_X6_writeWord__ek8 k b L σ) := by
  intro k
  induction k with
  | zero => intro b L σ _; exact Gf_no
  | succ k ih =>
    intro b L σ hb
    match b with
    | 0 =>
      refine Gf_eq (by rw [f_X6_writeWord__ek8]) ?_
      exact ih _ _ _ hb
    | 1 =>
      refine Gf_eq (by rw [f_X6_writeWord__ek8]) ?_
      exact Gf_ite (ih _ _ _ hb) (Gf_ite (Gf_op (kg_y_X6_put _ _ _ _ hb) (fun _ h458 => ih _ _ _ h458)) (Gf_no))
    | 2 =>
      refine Gf_eq (by rw [f_X6_writeWord__ek8]) ?_
      exact Gf_so hb
    | b + 3 =>
      exact Gf_eq (by rw [f_X6_writeWord__ek8]) Gf_no
theorem kg_f_X6_word__ek8 {P : Nat} : ∀ (k b : Nat) (L : LV) (σ : CS), KG P σ → Gf P (f_X6_word__ek8 k b L σ) := by
  intro k
  induction k with
  | zero => intro b L σ _; exact Gf_no
  | succ k ih =>
    intro b L σ hb
    match b with
    | 0 =>
      refine Gf_eq (by rw [f_X6_word__ek8]) ?_
      exact Gf_ox (kg_f_X6_writeWord__ek8 _ _ _ _ (KG_I (by decide) hb)) (fun _ h459 => Gf_op (kg_y_X6_madeString _ _ _ _ h459) (fun _ h460 => Gf_so h460))
    | b + 1 =>
      exact Gf_eq (by rw [f_X6_word__ek8]) Gf_no
theorem kg_f_X6_writeWord__ek10 {P : Nat} : ∀ (k b : Nat) (L : LV) (σ : CS), KG P σ → Gf P (f_X6_writeWord__ek10 k b L σ) := by
  intro k
  induction k with
  | zero => intro b L σ _; exact Gf_no
  | succ k ih =>
    intro b L σ hb
    match b with
    | 0 =>
      refine Gf_eq (by rw [f_X6_writeWord__ek10]) ?_
      exact ih _ _ _ hb
    | 1 =>
      refine Gf_eq (by rw [f_X6_writeWord__ek10]) ?_
      exact Gf_ite (ih _ _ _ hb) (Gf_ite (Gf_op (kg_y_X6_put _ _ _ _ hb) (fun _ h461 => ih _ _ _ h461)) (Gf_no))
    | 2 =>
      refine Gf_eq (by rw [f_X6_writeWord__ek10]) ?_
      exact Gf_so hb
    | b + 3 =>
      exact Gf_eq (by rw [f_X6_writeWord__ek10]) Gf_no
theorem kg_f_X6_word__ek10 {P : Nat} : ∀ (k b : Nat) (L : LV) (σ : CS), KG P σ → Gf P (f_X6_word__ek10 k b L σ) := by
  intro k
  induction k with
  | zero => intro b L σ _; exact Gf_no
  | succ k ih =>
    intro b L σ hb
    match b with
    | 0 =>
      refine Gf_eq (by rw [f_X6_word__ek10]) ?_
      exact Gf_ox (kg_f_X6_writeWord__ek10 _ _ _ _ (KG_I (by decide) hb)) (fun _ h462 => Gf_op (kg_y_X6_madeString _ _ _ _ h462) (fun _ h463 => Gf_so h463))
    | b + 1 =>
      exact Gf_eq (by rw [f_X6_word__ek10]) Gf_no
theorem kg_f_X6_writeWord__ek12 {P : Nat} : ∀ (k b : Nat) (L : LV) (σ : CS), KG P σ → Gf P (f_X6_writeWord__ek12 k b L σ) := by
  intro k
  induction k with
  | zero => intro b L σ _; exact Gf_no
  | succ k ih =>
    intro b L σ hb
    match b with
    | 0 =>
      refine Gf_eq (by rw [f_X6_writeWord__ek12]) ?_
      exact ih _ _ _ hb
    | 1 =>
      refine Gf_eq (by rw [f_X6_writeWord__ek12]) ?_
      exact Gf_ite (ih _ _ _ hb) (Gf_ite (Gf_op (kg_y_X6_put _ _ _ _ hb) (fun _ h464 => ih _ _ _ h464)) (Gf_no))
    | 2 =>
      refine Gf_eq (by rw [f_X6_writeWord__ek12]) ?_
      exact Gf_so hb
    | b + 3 =>
      exact Gf_eq (by rw [f_X6_writeWord__ek12]) Gf_no
theorem kg_f_X6_word__ek12 {P : Nat} : ∀ (k b : Nat) (L : LV) (σ : CS), KG P σ → Gf P (f_X6_word__ek12 k b L σ) := by
  intro k
  induction k with
  | zero => intro b L σ _; exact Gf_no
  | succ k ih =>
    intro b L σ hb
    match b with
    | 0 =>
      refine Gf_eq (by rw [f_X6_word__ek12]) ?_
      exact Gf_ox (kg_f_X6_writeWord__ek12 _ _ _ _ (KG_I (by decide) hb)) (fun _ h465 => Gf_op (kg_y_X6_madeString _ _ _ _ h465) (fun _ h466 => Gf_so h466))
    | b + 1 =>
      exact Gf_eq (by rw [f_X6_word__ek12]) Gf_no
theorem kg_f_X6_word__ek14 {P : Nat} : ∀ (k b : Nat) (L : LV) (σ : CS), KG P σ → Gf P (f_X6_word__ek14 k b L σ) := by
  intro k
  induction k with
  | zero => intro b L σ _; exact Gf_no
  | succ k ih =>
    intro b L σ hb
    match b with
    | 0 =>
      refine Gf_eq (by rw [f_X6_word__ek14]) ?_
      exact Gf_ox (kg_f_X6_writeWord__ek14 _ _ _ _ (KG_I (by decide) hb)) (fun _ h467 => Gf_op (kg_y_X6_madeString _ _ _ _ h467) (fun _ h468 => Gf_so h468))
    | b + 1 =>
      exact Gf_eq (by rw [f_X6_word__ek14]) Gf_no
theorem kg_f_X0_unary {P : Nat} : ∀ (k b : Nat) (L : LV) (σ : CS), KG P σ → Gf P (f_X0_unary k b L σ) := by
  intro k
  induction k with
  | zero => intro b L σ _; exact Gf_no
  | succ k ih =>
    intro b L σ hb
    match b with
    | 0 =>
      refine Gf_eq (by rw [f_X0_unary]) ?_
      exact Gf_op (kg_y_X1_kind _ _ _ _ hb) (fun _ h469 => Gf_ite (ih _ _ _ h469) (Gf_ite (ih _ _ _ h469) (Gf_ite (ih _ _ _ h469) (Gf_ite (ih _ _ _ h469) (Gf_ite (ih _ _ _ h469) (Gf_ite (ih _ _ _ h469) (Gf_ite (ih _ _ _ h469) (Gf_ite (ih _ _ _ h469) (Gf_ite (ih _ _ _ h469) (Gf_ite (ih _ _ _ h469) (Gf_ite (ih _ _ _ h469) (ih _ _ _ h469))))))))))))
    | 1 =>
      refine Gf_eq (by rw [f_X0_unary]) ?_
      exact Gf_ite (Gf_op (kg_y_X10_negated _ _ _ _ hb) (fun _ h470 => ih _ _ _ h470)) (ih _ _ _ hb)
    | 2 =>
      refine Gf_eq (by rw [f_X0_unary]) ?_
      exact Gf_ite (ih _ _ _ hb) (Gf_op (kg_y_X1_length _ _ _ _ hb) (fun _ h471 => Gf_op (kg_y_X10_small _ _ _ _ h471) (fun _ h472 => ih _ _ _ h472)))
    | 3 =>
      refine Gf_eq (by rw [f_X0_unary]) ?_
      exact Gf_ite (Gf_op (kg_y_X10_absolute _ _ _ _ hb) (fun _ h473 => ih _ _ _ h473)) (ih _ _ _ hb)
    | 4 =>
      refine Gf_eq (by rw [f_X0_unary]) ?_
      exact Gf_ite (Gf_op (kg_y_X1_member _ _ _ _ hb) (fun _ h474 => ih _ _ _ h474)) (ih _ _ _ hb)
    | 5 =>
      refine Gf_eq (by rw [f_X0_unary]) ?_
      exact Gf_op (kg_y_X1_isMap _ _ _ _ hb) (fun _ h475 => Gf_ite (ih _ _ _ h475) (Gf_op (kg_y_X0_domain _ _ _ _ h475) (fun _ h476 => ih _ _ _ h476)))
    | 6 =>
      refine Gf_eq (by rw [f_X0_unary]) ?_
      exact Gf_op (kg_y_X1_isMap _ _ _ _ hb) (fun _ h477 => Gf_ite (ih _ _ _ h477) (Gf_op (kg_y_X0_range _ _ _ _ h477) (fun _ h478 => ih _ _ _ h478)))
    | 7 =>
      refine Gf_eq (by rw [f_X0_unary]) ?_
      exact Gf_ite (Gf_op (kg_y_X0_subsets _ _ _ _ hb) (fun _ h479 => ih _ _ _ h479)) (ih _ _ _ hb)
    | 8 =>
      refine Gf_eq (by rw [f_X0_unary]) ?_
      exact Gf_ite (Gf_ox (kg_f_X6_word__ek2 _ _ _ _ hb) (fun _ h480 => Gf_so h480)) (Gf_ite (Gf_ox (kg_f_X6_word__ek4 _ _ _ _ hb) (fun _ h481 => Gf_so h481)) (Gf_ite (Gf_ox (kg_f_X6_word__ek6 _ _ _ _ hb) (fun _ h482 => Gf_so h482)) (Gf_ite (Gf_ox (kg_f_X6_word__ek8 _ _ _ _ hb) (fun _ h483 => Gf_so h483)) (Gf_ite (Gf_ox (kg_f_X6_word__ek10 _ _ _ _ hb) (fun _ h484 => Gf_so h484)) (Gf_ite (Gf_ox (kg_f_X6_word__ek12 _ _ _ _ hb) (fun _ h485 => Gf_so h485)) (Gf_ox (kg_f_X6_word__ek14 _ _ _ _ hb) (fun _ h486 => Gf_so h486)))))))
    | 9 =>
      refine Gf_eq (by rw [f_X0_unary]) ?_
      exact Gf_ox (kg_f_X6_print _ _ _ _ hb) (fun _ h487 => Gf_op (kg_y_X6_madeString _ _ _ _ h487) (fun _ h488 => Gf_so h488))
    | 10 =>
      refine Gf_eq (by rw [f_X0_unary]) ?_
      exact Gf_ite (Gf_op (kg_y_X0_charOf _ _ _ _ hb) (fun _ h489 => ih _ _ _ h489)) (ih _ _ _ hb)
    | 11 =>
      refine Gf_eq (by rw [f_X0_unary]) ?_
      exact Gf_ite (Gf_op (kg_y_X0_codeOf _ _ _ _ hb) (fun _ h490 => ih _ _ _ h490)) (ih _ _ _ hb)
    | 12 =>
      refine Gf_eq (by rw [f_X0_unary]) ?_
      exact Gf_ite (ih _ _ _ hb) (Gf_ite (ih _ _ _ hb) (ih _ _ _ hb))
    | 13 =>
      refine Gf_eq (by rw [f_X0_unary]) ?_
      exact ih _ _ _ hb
    | 14 =>
      refine Gf_eq (by rw [f_X0_unary]) ?_
      exact Gf_so hb
    | 15 =>
      refine Gf_eq (by rw [f_X0_unary]) ?_
      exact ih _ _ _ hb
    | 16 =>
      refine Gf_eq (by rw [f_X0_unary]) ?_
      exact Gf_so hb
    | 17 =>
      refine Gf_eq (by rw [f_X0_unary]) ?_
      exact ih _ _ _ hb
    | 18 =>
      refine Gf_eq (by rw [f_X0_unary]) ?_
      exact Gf_so hb
    | 19 =>
      refine Gf_eq (by rw [f_X0_unary]) ?_
      exact ih _ _ _ hb
    | 20 =>
      refine Gf_eq (by rw [f_X0_unary]) ?_
      exact Gf_so hb
    | 21 =>
      refine Gf_eq (by rw [f_X0_unary]) ?_
      exact ih _ _ _ hb
    | 22 =>
      refine Gf_eq (by rw [f_X0_unary]) ?_
      exact Gf_so hb
    | 23 =>
      refine Gf_eq (by rw [f_X0_unary]) ?_
      exact ih _ _ _ hb
    | 24 =>
      refine Gf_eq (by rw [f_X0_unary]) ?_
      exact Gf_so hb
    | 25 =>
      refine Gf_eq (by rw [f_X0_unary]) ?_
      exact ih _ _ _ hb
    | 26 =>
      refine Gf_eq (by rw [f_X0_unary]) ?_
      exact Gf_so hb
    | 27 =>
      refine Gf_eq (by rw [f_X0_unary]) ?_
      exact ih _ _ _ hb
    | 28 =>
      refine Gf_eq (by rw [f_X0_unary]) ?_
      exact Gf_so hb
    | 29 =>
      refine Gf_eq (by rw [f_X0_unary]) ?_
      exact ih _ _ _ hb
    | 30 =>
      refine Gf_eq (by rw [f_X0_unary]) ?_
      exact Gf_so hb
    | 31 =>
      refine Gf_eq (by rw [f_X0_unary]) ?_
      exact Gf_op (kg_y_X0_reversed _ _ _ _ hb) (fun _ h491 => ih _ _ _ h491)
    | 32 =>
      refine Gf_eq (by rw [f_X0_unary]) ?_
      exact ih _ _ _ hb
    | 33 =>
      refine Gf_eq (by rw [f_X0_unary]) ?_
      exact Gf_so hb
    | b + 34 =>
      exact Gf_eq (by rw [f_X0_unary]) Gf_no
theorem kg_f_X1_widen {P : Nat} : ∀ (k b : Nat) (L : LV) (σ : CS), KG P σ → Gf P (f_X1_widen k b L σ) := by
  intro k
  induction k with
  | zero => intro b L σ _; exact Gf_no
  | succ k ih =>
    intro b L σ hb
    match b with
    | 0 =>
      refine Gf_eq (by rw [f_X1_widen]) ?_
      exact Gf_ite (Gf_no) (Gf_ite (ih _ _ _ hb) (Gf_ite (Gf_ite (Gf_ad (ih _ _ _ (KG_o hb rfl))) (ih _ _ _ hb)) (Gf_no)))
    | 1 =>
      refine Gf_eq (by rw [f_X1_widen]) ?_
      exact Gf_so hb
    | 2 =>
      refine Gf_eq (by rw [f_X1_widen]) ?_
      exact Gf_ite (Gf_ite (Gf_ad (ih _ _ _ (KG_o hb rfl))) (ih _ _ _ hb)) (Gf_no)
    | 3 =>
      refine Gf_eq (by rw [f_X1_widen]) ?_
      exact Gf_ite (Gf_ite (Gf_ad (ih _ _ _ (KG_o hb rfl))) (ih _ _ _ hb)) (Gf_no)
    | b + 4 =>
      exact Gf_eq (by rw [f_X1_widen]) Gf_no
theorem kg_f_X3_isRoomFor {P : Nat} : ∀ (k b : Nat) (L : LV) (σ : CS), KG P σ → Gf P (f_X3_isRoomFor k b L σ) := by
  intro k
  induction k with
  | zero => intro b L σ _; exact Gf_no
  | succ k ih =>
    intro b L σ hb
    match b with
    | 0 =>
      refine Gf_eq (by rw [f_X3_isRoomFor]) ?_
      exact Gf_ite (Gf_ite (Gf_ad (ih _ _ _ (KG_o hb rfl))) (ih _ _ _ hb)) (Gf_no)
    | 1 =>
      refine Gf_eq (by rw [f_X3_isRoomFor]) ?_
      exact Gf_ite (ih _ _ _ hb) (ih _ _ _ (KG_I (by decide) hb))
    | 2 =>
      refine Gf_eq (by rw [f_X3_isRoomFor]) ?_
      exact Gf_so hb
    | 3 =>
      refine Gf_eq (by rw [f_X3_isRoomFor]) ?_
      exact Gf_so (KG_I (by decide) hb)
    | b + 4 =>
      exact Gf_eq (by rw [f_X3_isRoomFor]) Gf_no
theorem kg_f_X3_pushAll {P : Nat} : ∀ (k b : Nat) (L : LV) (σ : CS), KG P σ → Gf P (f_X3_pushAll k b L σ) := by
  intro k
  induction k with
  | zero => intro b L σ _; exact Gf_no
  | succ k ih =>
    intro b L σ hb
    match b with
    | 0 =>
      refine Gf_eq (by rw [f_X3_pushAll]) ?_
      exact Gf_ox (kg_f_X3_isRoomFor _ _ _ _ hb) (fun _ h492 => Gf_ite (ih _ _ _ h492) (ih _ _ _ h492))
    | 1 =>
      refine Gf_eq (by rw [f_X3_pushAll]) ?_
      exact Gf_so hb
    | 2 =>
      refine Gf_eq (by rw [f_X3_pushAll]) ?_
      exact Gf_ite (ih _ _ _ hb) (Gf_ite (ih _ _ _ (KG_o hb rfl)) (Gf_no))
    | 3 =>
      refine Gf_eq (by rw [f_X3_pushAll]) ?_
      exact ih _ _ _ (KG_I (by decide) hb)
    | b + 4 =>
      exact Gf_eq (by rw [f_X3_pushAll]) Gf_no
theorem kg_f_X3_makeRoom {P : Nat} : ∀ (k b : Nat) (L : LV) (σ : CS), KG P σ → Gf P (f_X3_makeRoom k b L σ) := by
  intro k
  induction k with
  | zero => intro b L σ _; exact Gf_no
  | succ k ih =>
    intro b L σ hb
    match b with
    | 0 =>
      refine Gf_eq (by rw [f_X3_makeRoom]) ?_
      exact Gf_op (kg_y_X1_isTight _ _ _ _ hb) (fun _ h493 => Gf_ite (Gf_so h493) (ih _ _ _ h493))
    | 1 =>
      refine Gf_eq (by rw [f_X3_makeRoom]) ?_
      exact Gf_op (kg_y_X3_moveAll _ _ _ _ hb) (fun _ h494 => Gf_ox (kg_f_X1_widen _ _ _ _ h494) (fun _ h495 => Gf_op (kg_y_X1_isScarce _ _ _ _ h495) (fun _ h496 => Gf_ite (ih _ _ _ h496) (Gf_op (kg_y_X9_used _ _ _ _ h496) (fun _ h497 => Gf_ite (ih _ _ _ h497) (Gf_op (kg_y_X9_drop _ _ _ _ h497) (fun _ h498 => Gf_op (kg_y_X3_moveAll _ _ _ _ h498) (fun _ h499 => ih _ _ _ h499))))))))
    | 2 =>
      refine Gf_eq (by rw [f_X3_makeRoom]) ?_
      exact Gf_so hb
    | b + 3 =>
      exact Gf_eq (by rw [f_X3_makeRoom]) Gf_no
theorem kg_f_X9_thinOut {P : Nat} : ∀ (k b : Nat) (L : LV) (σ : CS), KG P σ → Gf P (f_X9_thinOut k b L σ) := by
  intro k
  induction k with
  | zero => intro b L σ _; exact Gf_no
  | succ k ih =>
    intro b L σ hb
    match b with
    | 0 =>
      refine Gf_eq (by rw [f_X9_thinOut]) ?_
      exact ih _ _ _ (KG_I (by decide) (KG_I (by decide) hb))
    | 1 =>
      refine Gf_eq (by rw [f_X9_thinOut]) ?_
      exact ih _ _ _ (KG_I (by decide) hb)
    | 2 =>
      refine Gf_eq (by rw [f_X9_thinOut]) ?_
      exact Gf_ite (ih _ _ _ hb) (Gf_ite (Gf_ite (Gf_ite (Gf_no) (Gf_ite (Gf_ite (Gf_ite (Gf_ite (Gf_ite (ih _ _ _ (KG_o hb rfl)) (Gf_no)) (Gf_no)) (Gf_no)) (Gf_no)) (ih _ _ _ hb))) (Gf_no)) (Gf_no))
    | 3 =>
      refine Gf_eq (by rw [f_X9_thinOut]) ?_
      exact Gf_so hb
    | 4 =>
      refine Gf_eq (by rw [f_X9_thinOut]) ?_
      exact ih _ _ _ hb
    | 5 =>
      refine Gf_eq (by rw [f_X9_thinOut]) ?_
      exact Gf_ite (Gf_ite (Gf_ite (ih _ _ _ (KG_o hb rfl)) (Gf_no)) (Gf_no)) (Gf_no)
    | 6 =>
      refine Gf_eq (by rw [f_X9_thinOut]) ?_
      exact Gf_ite (Gf_ite (Gf_ite (Gf_ite (Gf_ite (ih _ _ _ (KG_I (by decide) (KG_o (KG_o hb rfl) rfl))) (Gf_no)) (Gf_no)) (Gf_no)) (Gf_no)) (Gf_no)
    | 7 =>
      refine Gf_eq (by rw [f_X9_thinOut]) ?_
      exact ih _ _ _ (KG_I (by decide) hb)
    | b + 8 =>
      exact Gf_eq (by rw [f_X9_thinOut]) Gf_no
theorem kg_y_X9_isRoomFor__a19 {P : Nat} : ∀ (k b : Nat) (L : LV) (σ : CS), KG P σ → Gy P (y_X9_isRoomFor__a19 k b L σ) := by
  intro k
  induction k with
  | zero => intro b L σ _; exact Gy_no
  | succ k ih =>
    intro b L σ hb
    match b with
    | 0 =>
      refine Gy_eq (by rw [y_X9_isRoomFor__a19]) ?_
      exact ih _ _ _ hb
    | 1 =>
      refine Gy_eq (by rw [y_X9_isRoomFor__a19]) ?_
      exact Gy_ite (ih _ _ _ hb) (Gy_ite (Gy_ite (Gy_ite (Gy_ite (ih _ _ _ hb) (Gy_no)) (Gy_no)) (Gy_no)) (Gy_no))
    | 2 =>
      refine Gy_eq (by rw [y_X9_isRoomFor__a19]) ?_
      exact Gy_ite (ih _ _ _ hb) (Gy_ite (ih _ _ _ hb) (ih _ _ _ hb))
    | 3 =>
      refine Gy_eq (by rw [y_X9_isRoomFor__a19]) ?_
      exact ih _ _ _ hb
    | 4 =>
      refine Gy_eq (by rw [y_X9_isRoomFor__a19]) ?_
      exact Gy_ite (Gy_so hb) (Gy_no)
    | b + 5 =>
      exact Gy_eq (by rw [y_X9_isRoomFor__a19]) Gy_no
theorem kg_y_X8_copyFrom__R__a19 {P : Nat} : ∀ (k b : Nat) (L : LV) (σ : CS), KG P σ → Gy P (y_X8_copyFrom__R__a19 k b L σ) := by
  intro k
  induction k with
  | zero => intro b L σ _; exact Gy_no
  | succ k ih =>
    intro b L σ hb
    match b with
    | 0 =>
      refine Gy_eq (by rw [y_X8_copyFrom__R__a19]) ?_
      exact Gy_ite (Gy_ite (Gy_ite (ih _ _ _ (KG_I (by omega) (KG_I (by omega) (KG_I (by omega) hb)))) (Gy_no)) (Gy_no)) (Gy_no)
    | 1 =>
      refine Gy_eq (by rw [y_X8_copyFrom__R__a19]) ?_
      exact Gy_ite (Gy_ite (Gy_ite (ih _ _ _ (KG_I (by omega) (KG_I (by omega) (KG_I (by omega) hb)))) (Gy_no)) (Gy_no)) (Gy_no)
    | 2 =>
      refine Gy_eq (by rw [y_X8_copyFrom__R__a19]) ?_
      exact Gy_ite (Gy_ite (Gy_ite (ih _ _ _ (KG_I (by omega) (KG_I (by omega) (KG_I (by omega) hb)))) (Gy_no)) (Gy_no)) (Gy_no)
    | 3 =>
      refine Gy_eq (by rw [y_X8_copyFrom__R__a19]) ?_
      exact Gy_ite (Gy_ite (Gy_ite (ih _ _ _ (KG_I (by omega) (KG_I (by omega) (KG_I (by omega) hb)))) (Gy_no)) (Gy_no)) (Gy_no)
    | 4 =>
      refine Gy_eq (by rw [y_X8_copyFrom__R__a19]) ?_
      exact Gy_ite (Gy_ite (Gy_ite (ih _ _ _ (KG_I (by omega) (KG_I (by omega) (KG_I (by omega) hb)))) (Gy_no)) (Gy_no)) (Gy_no)
    | 5 =>
      refine Gy_eq (by rw [y_X8_copyFrom__R__a19]) ?_
      exact Gy_ite (Gy_ite (Gy_so (KG_o (KG_I (by omega) hb) rfl)) (Gy_no)) (Gy_no)
    | b + 6 =>
      exact Gy_eq (by rw [y_X8_copyFrom__R__a19]) Gy_no
theorem kg_f_X9_store__a19__z20__z21 {P : Nat} : ∀ (k b : Nat) (L : LV) (σ : CS), KG P σ → Gf P (f_X9_store__a19__z20__z21 k b L σ) := by
  intro k
  induction k with
  | zero => intro b L σ _; exact Gf_no
  | succ k ih =>
    intro b L σ hb
    match b with
    | 0 =>
      refine Gf_eq (by rw [f_X9_store__a19__z20__z21]) ?_
      exact Gf_ite (Gf_ite (Gf_ad (ih _ _ _ (KG_o hb rfl))) (ih _ _ _ hb)) (Gf_no)
    | 1 =>
      refine Gf_eq (by rw [f_X9_store__a19__z20__z21]) ?_
      exact Gf_ite (ih _ _ _ (KG_o hb rfl)) (Gf_no)
    | 2 =>
      refine Gf_eq (by rw [f_X9_store__a19__z20__z21]) ?_
      exact Gf_ite (Gf_ite (Gf_op (kg_y_X8_copyFrom__R__a19 _ _ _ _ hb) (fun _ h500 => Gf_ite (ih _ _ _ (KG_o h500 rfl)) (Gf_no))) (Gf_no)) (Gf_no)
    | 3 =>
      refine Gf_eq (by rw [f_X9_store__a19__z20__z21]) ?_
      exact Gf_ite (ih _ _ _ (KG_o hb rfl)) (Gf_no)
    | 4 =>
      refine Gf_eq (by rw [f_X9_store__a19__z20__z21]) ?_
      exact Gf_so hb
    | b + 5 =>
      exact Gf_eq (by rw [f_X9_store__a19__z20__z21]) Gf_no
theorem kg_f_X9_add__a19__z20__z21 {P : Nat} : ∀ (k b : Nat) (L : LV) (σ : CS), KG P σ → Gf P (f_X9_add__a19__z20__z21 k b L σ) := by
  intro k
  induction k with
  | zero => intro b L σ _; exact Gf_no
  | succ k ih =>
    intro b L σ hb
    match b with
    | 0 =>
      refine Gf_eq (by rw [f_X9_add__a19__z20__z21]) ?_
      exact ih _ _ _ (KG_I (by decide) hb)
    | 1 =>
      refine Gf_eq (by rw [f_X9_add__a19__z20__z21]) ?_
      exact Gf_ite (ih _ _ _ hb) (Gf_ite (ih _ _ _ hb) (Gf_ite (ih _ _ _ hb) (Gf_op (kg_y_X9_isRoomFor__a19 _ _ _ _ hb) (fun _ h501 => Gf_ite (ih _ _ _ h501) (ih _ _ _ h501)))))
    | 2 =>
      refine Gf_eq (by rw [f_X9_add__a19__z20__z21]) ?_
      exact Gf_ite (Gf_no) (Gf_ite (Gf_no) (Gf_ite (Gf_op (kg_y_X9_isRoomFor__a19 _ _ _ _ (KG_I (by decide) hb)) (fun _ h502 => Gf_ite (ih _ _ _ h502) (Gf_ox (kg_f_X9_store__a19__z20__z21 _ _ _ _ h502) (fun _ h503 => ih _ _ _ (KG_I (by decide) h503))))) (ih _ _ _ (KG_I (by decide) hb))))
    | 3 =>
      refine Gf_eq (by rw [f_X9_add__a19__z20__z21]) ?_
      exact Gf_ox (kg_f_X9_thinOut _ _ _ _ hb) (fun _ h504 => ih _ _ _ h504)
    | 4 =>
      refine Gf_eq (by rw [f_X9_add__a19__z20__z21]) ?_
      exact Gf_so hb
    | 5 =>
      refine Gf_eq (by rw [f_X9_add__a19__z20__z21]) ?_
      exact ih _ _ _ (KG_I (by decide) hb)
    | b + 6 =>
      exact Gf_eq (by rw [f_X9_add__a19__z20__z21]) Gf_no
theorem kg_f_X9_addNear__a19__z20__z21 {P : Nat} : ∀ (k b : Nat) (L : LV) (σ : CS), KG P σ → Gf P (f_X9_addNear__a19__z20__z21 k b L σ) := by
  intro k
  induction k with
  | zero => intro b L σ _; exact Gf_no
  | succ k ih =>
    intro b L σ hb
    match b with
    | 0 =>
      refine Gf_eq (by rw [f_X9_addNear__a19__z20__z21]) ?_
      exact Gf_ite (ih _ _ _ hb) (ih _ _ _ hb)
    | 1 =>
      refine Gf_eq (by rw [f_X9_addNear__a19__z20__z21]) ?_
      exact ih _ _ _ hb
    | 2 =>
      refine Gf_eq (by rw [f_X9_addNear__a19__z20__z21]) ?_
      exact Gf_ite (Gf_ite (ih _ _ _ (KG_I (by decide) hb)) (Gf_ox (kg_f_X9_store__a19__z20__z21 _ _ _ _ (KG_I (by decide) hb)) (fun _ h505 => ih _ _ _ h505))) (Gf_no)
    | 3 =>
      refine Gf_eq (by rw [f_X9_addNear__a19__z20__z21]) ?_
      exact Gf_so hb
    | b + 4 =>
      exact Gf_eq (by rw [f_X9_addNear__a19__z20__z21]) Gf_no
theorem kg_f_X3_save {P : Nat} : ∀ (k b : Nat) (L : LV) (σ : CS), KG P σ → Gf P (f_X3_save k b L σ) := by
  intro k
  induction k with
  | zero => intro b L σ _; exact Gf_no
  | succ k ih =>
    intro b L σ hb
    match b with
    | 0 =>
      refine Gf_eq (by rw [f_X3_save]) ?_
      exact Gf_ite (Gf_ox (kg_f_X9_add__a19__z20__z21 _ _ _ _ (KG_I (by decide) hb)) (fun _ h506 => ih _ _ _ h506)) (ih _ _ _ (KG_I (by decide) hb))
    | 1 =>
      refine Gf_eq (by rw [f_X3_save]) ?_
      exact Gf_ite (Gf_ox (kg_f_X9_addNear__a19__z20__z21 _ _ _ _ hb) (fun _ h507 => ih _ _ _ h507)) (ih _ _ _ hb)
    | 2 =>
      refine Gf_eq (by rw [f_X3_save]) ?_
      exact Gf_so (KG_I (by decide) hb)
    | b + 3 =>
      exact Gf_eq (by rw [f_X3_save]) Gf_no
theorem kg_f_X3_flow {P : Nat} : ∀ (k b : Nat) (L : LV) (σ : CS), KG P σ → Gf P (f_X3_flow k b L σ) := by
  intro k
  induction k with
  | zero => intro b L σ _; exact Gf_no
  | succ k ih =>
    intro b L σ hb
    match b with
    | 0 =>
      refine Gf_eq (by rw [f_X3_flow]) ?_
      exact Gf_ite (ih _ _ _ hb) (Gf_ite (ih _ _ _ hb) (Gf_ite (ih _ _ _ hb) (Gf_ite (ih _ _ _ hb) (Gf_ite (ih _ _ _ hb) (Gf_ite (ih _ _ _ hb) (Gf_ite (ih _ _ _ hb) (Gf_ite (ih _ _ _ hb) (Gf_ite (ih _ _ _ hb) (Gf_ite (ih _ _ _ hb) (ih _ _ _ hb))))))))))
    | 1 =>
      refine Gf_eq (by rw [f_X3_flow]) ?_
      exact Gf_ite (ih _ _ _ hb) (Gf_ite (ih _ _ _ hb) (Gf_ite (ih _ _ _ hb) (ih _ _ _ hb)))
    | 2 =>
      refine Gf_eq (by rw [f_X3_flow]) ?_
      exact ih _ _ _ (KG_I (by decide) (KG_I (by decide) hb))
    | 3 =>
      refine Gf_eq (by rw [f_X3_flow]) ?_
      exact ih _ _ _ (KG_I (by decide) hb)
    | 4 =>
      refine Gf_eq (by rw [f_X3_flow]) ?_
      exact Gf_op (kg_y_X3_pop _ _ _ _ hb) (fun _ h508 => Gf_op (kg_y_X3_wantTruth _ _ _ _ h508) (fun _ h509 => Gf_ite (ih _ _ _ h509) (Gf_ite (ih _ _ _ h509) (ih _ _ _ h509))))
    | 5 =>
      refine Gf_eq (by rw [f_X3_flow]) ?_
      exact Gf_ite (ih _ _ _ hb) (ih _ _ _ hb)
    | 6 =>
      refine Gf_eq (by rw [f_X3_flow]) ?_
      exact Gf_ite (Gf_op (kg_y_X3_wantTruth _ _ _ _ hb) (fun _ h510 => Gf_ite (ih _ _ _ h510) (Gf_op (kg_y_X3_spend _ _ _ _ h510) (fun _ h511 => ih _ _ _ h511)))) (Gf_no)
    | 7 =>
      refine Gf_eq (by rw [f_X3_flow]) ?_
      exact Gf_ite (Gf_op (kg_y_X3_wantTruth _ _ _ _ hb) (fun _ h512 => Gf_ite (ih _ _ _ h512) (Gf_ite (Gf_ite (ih _ _ _ h512) (ih _ _ _ h512)) (Gf_no)))) (Gf_no)
    | 8 =>
      refine Gf_eq (by rw [f_X3_flow]) ?_
      exact ih _ _ _ (KG_I (by decide) hb)
    | 9 =>
      refine Gf_eq (by rw [f_X3_flow]) ?_
      exact Gf_op (kg_bs _ _ _ hb) (fun _ h513 => ih _ _ _ h513)
    | 10 =>
      refine Gf_eq (by rw [f_X3_flow]) ?_
      exact Gf_ox (kg_f_X3_save _ _ _ _ hb) (fun _ h514 => ih _ _ _ h514)
    | 11 =>
      refine Gf_eq (by rw [f_X3_flow]) ?_
      exact Gf_so hb
    | 12 =>
      refine Gf_eq (by rw [f_X3_flow]) ?_
      exact ih _ _ _ hb
    | 13 =>
      refine Gf_eq (by rw [f_X3_flow]) ?_
      exact Gf_ite (ih _ _ _ hb) (ih _ _ _ hb)
    | 14 =>
      refine Gf_eq (by rw [f_X3_flow]) ?_
      exact ih _ _ _ hb
    | 15 =>
      refine Gf_eq (by rw [f_X3_flow]) ?_
      exact Gf_op (kg_y_X3_shortcut _ _ _ _ hb) (fun _ h515 => ih _ _ _ h515)
    | 16 =>
      refine Gf_eq (by rw [f_X3_flow]) ?_
      exact ih _ _ _ hb
    | 17 =>
      refine Gf_eq (by rw [f_X3_flow]) ?_
      exact Gf_op (kg_y_X11_truth _ _ _ _ hb) (fun _ h516 => Gf_op (kg_y_X3_replace _ _ _ _ h516) (fun _ h517 => ih _ _ _ h517))
    | 18 =>
      refine Gf_eq (by rw [f_X3_flow]) ?_
      exact ih _ _ _ hb
    | 19 =>
      refine Gf_eq (by rw [f_X3_flow]) ?_
      exact Gf_ite (ih _ _ _ (KG_I (by decide) hb)) (ih _ _ _ hb)
    | b + 20 =>
      exact Gf_eq (by rw [f_X3_flow]) Gf_no
theorem kg_f_X3_enter {P : Nat} : ∀ (k b : Nat) (L : LV) (σ : CS), KG P σ → Gf P (f_X3_enter k b L σ) := by
  intro k
  induction k with
  | zero => intro b L σ _; exact Gf_no
  | succ k ih =>
    intro b L σ hb
    match b with
    | 0 =>
      refine Gf_eq (by rw [f_X3_enter]) ?_
      exact Gf_oP (fun _ => Gf_ite (Gf_op (kg_y_X11_raw _ _ _ _ hb) (fun _ h518 => Gf_ite (Gf_op (kg_y_X11_raw _ _ _ _ (KG_o h518 rfl)) (fun _ h519 => ih _ _ _ h519)) (Gf_no))) (Gf_no))
    | 1 =>
      refine Gf_eq (by rw [f_X3_enter]) ?_
      exact Gf_ite (Gf_op (kg_y_X11_raw _ _ _ _ (KG_o hb rfl)) (fun _ h520 => Gf_ite (ih _ _ _ (KG_o h520 rfl)) (Gf_no))) (Gf_no)
    | 2 =>
      refine Gf_eq (by rw [f_X3_enter]) ?_
      exact Gf_op (kg_y_X11_raw _ _ _ _ hb) (fun _ h521 => Gf_ite (ih _ _ _ (KG_I (by decide) (KG_o h521 rfl))) (Gf_no))
    | 3 =>
      refine Gf_eq (by rw [f_X3_enter]) ?_
      exact Gf_oP (fun _ => Gf_ite (Gf_oP (fun _ => Gf_ite (Gf_ox (kg_f_X3_pushAll _ _ _ _ hb) (fun _ h522 => Gf_oP (fun _ => Gf_ite (Gf_so (KG_I (by decide) h522)) (Gf_no)))) (Gf_no))) (Gf_no))
    | b + 4 =>
      exact Gf_eq (by rw [f_X3_enter]) Gf_no
theorem kg_f_X3_callFunc {P : Nat} : ∀ (k b : Nat) (L : LV) (σ : CS), KG P σ → Gf P (f_X3_callFunc k b L σ) := by
  intro k
  induction k with
  | zero => intro b L σ _; exact Gf_no
  | succ k ih =>
    intro b L σ hb
    match b with
    | 0 =>
      refine Gf_eq (by rw [f_X3_callFunc]) ?_
      exact Gf_oP (fun _ => Gf_ite (Gf_oP (fun _ => Gf_ite (Gf_ite (ih _ _ _ hb) (Gf_ite (ih _ _ _ hb) (ih _ _ _ hb))) (Gf_no))) (Gf_no))
    | 1 =>
      refine Gf_eq (by rw [f_X3_callFunc]) ?_
      exact Gf_op (kg_y_X3_fail _ _ _ _ hb) (fun _ h523 => Gf_so h523)
    | 2 =>
      refine Gf_eq (by rw [f_X3_callFunc]) ?_
      exact ih _ _ _ (KG_I (by decide) (KG_I (by decide) (KG_I (by decide) hb)))
    | 3 =>
      refine Gf_eq (by rw [f_X3_callFunc]) ?_
      exact Gf_ox (kg_f_X3_enter _ _ _ _ hb) (fun _ h524 => Gf_so h524)
    | b + 4 =>
      exact Gf_eq (by rw [f_X3_callFunc]) Gf_no
theorem kg_f_X3_push {P : Nat} : ∀ (k b : Nat) (L : LV) (σ : CS), KG P σ → Gf P (f_X3_push k b L σ) := by
  intro k
  induction k with
  | zero => intro b L σ _; exact Gf_no
  | succ k ih =>
    intro b L σ hb
    match b with
    | 0 =>
      refine Gf_eq (by rw [f_X3_push]) ?_
      exact Gf_ite (ih _ _ _ hb) (Gf_ox (kg_f_X3_isRoomFor _ _ _ _ hb) (fun _ h525 => Gf_ite (ih _ _ _ h525) (ih _ _ _ h525)))
    | 1 =>
      refine Gf_eq (by rw [f_X3_push]) ?_
      exact Gf_ite (ih _ _ _ (KG_I (by decide) (KG_o hb rfl))) (Gf_no)
    | 2 =>
      refine Gf_eq (by rw [f_X3_push]) ?_
      exact Gf_so hb
    | b + 3 =>
      exact Gf_eq (by rw [f_X3_push]) Gf_no
theorem kg_f_X3_give {P : Nat} : ∀ (k b : Nat) (L : LV) (σ : CS), KG P σ → Gf P (f_X3_give k b L σ) := by
  intro k
  induction k with
  | zero => intro b L σ _; exact Gf_no
  | succ k ih =>
    intro b L σ hb
    match b with
    | 0 =>
      refine Gf_eq (by rw [f_X3_give]) ?_
      exact Gf_ox (kg_f_X3_push _ _ _ _ hb) (fun _ h526 => Gf_op (kg_y_X3_replace _ _ _ _ h526) (fun _ h527 => Gf_so h527))
    | b + 1 =>
      exact Gf_eq (by rw [f_X3_give]) Gf_no
theorem kg_f_X3_endFunc {P : Nat} : ∀ (k b : Nat) (L : LV) (σ : CS), KG P σ → Gf P (f_X3_endFunc k b L σ) := by
  intro k
  induction k with
  | zero => intro b L σ _; exact Gf_no
  | succ k ih =>
    intro b L σ hb
    match b with
    | 0 =>
      refine Gf_eq (by rw [f_X3_endFunc]) ?_
      exact Gf_op (kg_y_X3_pop _ _ _ _ hb) (fun _ h528 => Gf_ite (Gf_op (kg_y_X11_unraw _ _ _ _ (KG_I (by decide) h528)) (fun _ h529 => ih _ _ _ (KG_I (by decide) h529))) (Gf_no))
    | 1 =>
      refine Gf_eq (by rw [f_X3_endFunc]) ?_
      exact Gf_ite (Gf_op (kg_y_X11_unraw _ _ _ _ hb) (fun _ h530 => Gf_ite (Gf_op (kg_y_X11_unraw _ _ _ _ (KG_I (by decide) h530)) (fun _ h531 => ih _ _ _ h531)) (Gf_no))) (Gf_no)
    | 2 =>
      refine Gf_eq (by rw [f_X3_endFunc]) ?_
      exact Gf_ite (Gf_op (kg_y_X11_unraw _ _ _ _ (KG_I (by decide) hb)) (fun _ h532 => ih _ _ _ (KG_I (by decide) h532))) (Gf_no)
    | 3 =>
      refine Gf_eq (by rw [f_X3_endFunc]) ?_
      exact Gf_ox (kg_f_X3_give _ _ _ _ (KG_I (by decide) hb)) (fun _ h533 => Gf_so h533)
    | b + 4 =>
      exact Gf_eq (by rw [f_X3_endFunc]) Gf_no
theorem kg_f_X3_callProc {P : Nat} : ∀ (k b : Nat) (L : LV) (σ : CS), KG P σ → Gf P (f_X3_callProc k b L σ) := by
  intro k
  induction k with
  | zero => intro b L σ _; exact Gf_no
  | succ k ih =>
    intro b L σ hb
    match b with
    | 0 =>
      refine Gf_eq (by rw [f_X3_callProc]) ?_
      exact Gf_ite (ih _ _ _ hb) (Gf_op (kg_y_X3_fail _ _ _ _ hb) (fun _ h534 => Gf_so h534))
    | 1 =>
      refine Gf_eq (by rw [f_X3_callProc]) ?_
      exact Gf_oP (fun _ => Gf_ite (Gf_oP (fun _ => Gf_ite (ih _ _ _ hb) (Gf_no))) (Gf_no))
    | 2 =>
      refine Gf_eq (by rw [f_X3_callProc]) ?_
      exact Gf_ite (ih _ _ _ hb) (Gf_ite (Gf_op (kg_y_X1_size _ _ _ _ hb) (fun _ h535 => ih _ _ _ h535)) (Gf_no))
    | 3 =>
      refine Gf_eq (by rw [f_X3_callProc]) ?_
      exact Gf_ite (ih _ _ _ hb) (Gf_op (kg_y_X3_fail _ _ _ _ hb) (fun _ h536 => Gf_so h536))
    | 4 =>
      refine Gf_eq (by rw [f_X3_callProc]) ?_
      exact Gf_ox (kg_f_X3_enter _ _ _ _ hb) (fun _ h537 => ih _ _ _ (KG_I (by decide) (KG_I (by decide) (KG_I (by decide) h537))))
    | 5 =>
      refine Gf_eq (by rw [f_X3_callProc]) ?_
      exact Gf_so hb
    | b + 6 =>
      exact Gf_eq (by rw [f_X3_callProc]) Gf_no
theorem kg_f_X3_makePoint {P : Nat} : ∀ (k b : Nat) (L : LV) (σ : CS), KG P σ → Gf P (f_X3_makePoint k b L σ) := by
  intro k
  induction k with
  | zero => intro b L σ _; exact Gf_no
  | succ k ih =>
    intro b L σ hb
    match b with
    | 0 =>
      refine Gf_eq (by rw [f_X3_makePoint]) ?_
      exact Gf_ite (ih _ _ _ hb) (Gf_ite (ih _ _ _ hb) (ih _ _ _ hb))
    | 1 =>
      refine Gf_eq (by rw [f_X3_makePoint]) ?_
      exact Gf_op (kg_y_X3_fail _ _ _ _ hb) (fun _ h538 => Gf_so h538)
    | 2 =>
      refine Gf_eq (by rw [f_X3_makePoint]) ?_
      exact Gf_ite (Gf_ite (Gf_ad (ih _ _ _ (KG_o hb rfl))) (ih _ _ _ hb)) (Gf_no)
    | 3 =>
      refine Gf_eq (by rw [f_X3_makePoint]) ?_
      exact Gf_ite (ih _ _ _ hb) (Gf_op (kg_y_X3_fail _ _ _ _ hb) (fun _ h539 => Gf_so h539))
    | 4 =>
      refine Gf_eq (by rw [f_X3_makePoint]) ?_
      exact Gf_ite (ih _ _ _ (KG_o hb rfl)) (Gf_no)
    | 5 =>
      refine Gf_eq (by rw [f_X3_makePoint]) ?_
      exact Gf_op (kg_y_X11_raw _ _ _ _ hb) (fun _ h540 => Gf_ite (ih _ _ _ (KG_o h540 rfl)) (Gf_no))
    | 6 =>
      refine Gf_eq (by rw [f_X3_makePoint]) ?_
      exact Gf_op (kg_y_X11_raw _ _ _ _ hb) (fun _ h541 => Gf_ite (Gf_op (kg_y_X11_raw _ _ _ _ (KG_o h541 rfl)) (fun _ h542 => ih _ _ _ h542)) (Gf_no))
    | 7 =>
      refine Gf_eq (by rw [f_X3_makePoint]) ?_
      exact Gf_ite (Gf_op (kg_y_X11_raw _ _ _ _ (KG_o hb rfl)) (fun _ h543 => Gf_ite (ih _ _ _ (KG_o h543 rfl)) (Gf_no))) (Gf_no)
    | 8 =>
      refine Gf_eq (by rw [f_X3_makePoint]) ?_
      exact Gf_op (kg_y_X11_raw _ _ _ _ hb) (fun _ h544 => Gf_ite (Gf_op (kg_y_X11_raw _ _ _ _ (KG_o h544 rfl)) (fun _ h545 => ih _ _ _ h545)) (Gf_no))
    | 9 =>
      refine Gf_eq (by rw [f_X3_makePoint]) ?_
      exact Gf_ite (ih _ _ _ (KG_I (by decide) (KG_I (by decide) (KG_o hb rfl)))) (Gf_no)
    | 10 =>
      refine Gf_eq (by rw [f_X3_makePoint]) ?_
      exact Gf_ox (kg_f_X3_push _ _ _ _ (KG_I (by decide) hb)) (fun _ h546 => Gf_so h546)
    | b + 11 =>
      exact Gf_eq (by rw [f_X3_makePoint]) Gf_no
theorem kg_f_X3_leavePoint {P : Nat} : ∀ (k b : Nat) (L : LV) (σ : CS), KG P σ → Gf P (f_X3_leavePoint k b L σ) := by
  intro k
  induction k with
  | zero => intro b L σ _; exact Gf_no
  | succ k ih =>
    intro b L σ hb
    match b with
    | 0 =>
      refine Gf_eq (by rw [f_X3_leavePoint]) ?_
      exact Gf_ite (Gf_op (kg_y_X3_fail _ _ _ _ hb) (fun _ h547 => Gf_so h547)) (ih _ _ _ hb)
    | 1 =>
      refine Gf_eq (by rw [f_X3_leavePoint]) ?_
      exact Gf_ite (Gf_op (kg_y_X11_unraw _ _ _ _ hb) (fun _ h548 => Gf_ite (Gf_op (kg_y_X11_unraw _ _ _ _ h548) (fun _ h549 => ih _ _ _ (KG_I (by decide) h549))) (Gf_no))) (Gf_no)
    | 2 =>
      refine Gf_eq (by rw [f_X3_leavePoint]) ?_
      exact Gf_ite (ih _ _ _ (KG_I (by decide) (KG_I (by decide) hb))) (Gf_ite (Gf_op (kg_y_X11_unraw _ _ _ _ (KG_I (by decide) (KG_I (by decide) hb))) (fun _ h550 => ih _ _ _ h550)) (Gf_no))
    | 3 =>
      refine Gf_eq (by rw [f_X3_leavePoint]) ?_
      exact Gf_so hb
    | 4 =>
      refine Gf_eq (by rw [f_X3_leavePoint]) ?_
      exact Gf_ite (Gf_op (kg_y_X11_unraw _ _ _ _ (KG_I (by decide) hb)) (fun _ h551 => ih _ _ _ (KG_I (by decide) h551))) (Gf_no)
    | 5 =>
      refine Gf_eq (by rw [f_X3_leavePoint]) ?_
      exact Gf_ite (Gf_op (kg_y_X11_unraw _ _ _ _ (KG_I (by decide) hb)) (fun _ h552 => ih _ _ _ (KG_I (by decide) h552))) (Gf_no)
    | 6 =>
      refine Gf_eq (by rw [f_X3_leavePoint]) ?_
      exact Gf_ite (Gf_op (kg_y_X11_unraw _ _ _ _ (KG_I (by decide) hb)) (fun _ h553 => ih _ _ _ (KG_I (by decide) h553))) (Gf_no)
    | 7 =>
      refine Gf_eq (by rw [f_X3_leavePoint]) ?_
      exact Gf_ite (ih _ _ _ (KG_o hb rfl)) (Gf_no)
    | 8 =>
      refine Gf_eq (by rw [f_X3_leavePoint]) ?_
      exact Gf_ox (kg_f_X3_push _ _ _ _ hb) (fun _ h554 => ih _ _ _ h554)
    | b + 9 =>
      exact Gf_eq (by rw [f_X3_leavePoint]) Gf_no
theorem kg_f_X3_callsAndPoints {P : Nat} : ∀ (k b : Nat) (L : LV) (σ : CS), KG P σ → Gf P (f_X3_callsAndPoints k b L σ) := by
  intro k
  induction k with
  | zero => intro b L σ _; exact Gf_no
  | succ k ih =>
    intro b L σ hb
    match b with
    | 0 =>
      refine Gf_eq (by rw [f_X3_callsAndPoints]) ?_
      exact Gf_ite (ih _ _ _ hb) (Gf_ite (ih _ _ _ hb) (Gf_ite (ih _ _ _ hb) (Gf_ite (ih _ _ _ hb) (Gf_ite (ih _ _ _ hb) (Gf_ite (ih _ _ _ hb) (Gf_ite (ih _ _ _ hb) (Gf_ite (ih _ _ _ hb) (Gf_ite (ih _ _ _ hb) (ih _ _ _ hb)))))))))
    | 1 =>
      refine Gf_eq (by rw [f_X3_callsAndPoints]) ?_
      exact Gf_ox (kg_f_X3_pushAll _ _ _ _ hb) (fun _ h555 => ih _ _ _ h555)
    | 2 =>
      refine Gf_eq (by rw [f_X3_callsAndPoints]) ?_
      exact Gf_ox (kg_f_X3_callFunc _ _ _ _ hb) (fun _ h556 => ih _ _ _ h556)
    | 3 =>
      refine Gf_eq (by rw [f_X3_callsAndPoints]) ?_
      exact Gf_ox (kg_f_X3_endFunc _ _ _ _ hb) (fun _ h557 => ih _ _ _ h557)
    | 4 =>
      refine Gf_eq (by rw [f_X3_callsAndPoints]) ?_
      exact Gf_ox (kg_f_X3_callProc _ _ _ _ hb) (fun _ h558 => ih _ _ _ h558)
    | 5 =>
      refine Gf_eq (by rw [f_X3_callsAndPoints]) ?_
      exact Gf_op (kg_y_X3_endProc _ _ _ _ hb) (fun _ h559 => ih _ _ _ h559)
    | 6 =>
      refine Gf_eq (by rw [f_X3_callsAndPoints]) ?_
      exact Gf_ox (kg_f_X3_makePoint _ _ _ _ hb) (fun _ h560 => ih _ _ _ h560)
    | 7 =>
      refine Gf_eq (by rw [f_X3_callsAndPoints]) ?_
      exact Gf_ite (ih _ _ _ hb) (ih _ _ _ hb)
    | 8 =>
      refine Gf_eq (by rw [f_X3_callsAndPoints]) ?_
      exact Gf_op (kg_y_X3_pop _ _ _ _ hb) (fun _ h561 => Gf_op (kg_y_X3_wantTruth _ _ _ _ h561) (fun _ h562 => Gf_ite (ih _ _ _ h562) (Gf_ite (Gf_op (kg_y_X3_fail _ _ _ _ h562) (fun _ h563 => ih _ _ _ h563)) (ih _ _ _ h562))))
    | 9 =>
      refine Gf_eq (by rw [f_X3_callsAndPoints]) ?_
      exact Gf_so hb
    | 10 =>
      refine Gf_eq (by rw [f_X3_callsAndPoints]) ?_
      exact ih _ _ _ hb
    | 11 =>
      refine Gf_eq (by rw [f_X3_callsAndPoints]) ?_
      exact Gf_ox (kg_f_X3_leavePoint _ _ _ _ hb) (fun _ h564 => ih _ _ _ h564)
    | b + 12 =>
      exact Gf_eq (by rw [f_X3_callsAndPoints]) Gf_no
theorem kg_y_X1_makeCopy__A0 {P : Nat} : ∀ (k b : Nat) (L : LV) (σ : CS), KG P σ → Gy P (y_X1_makeCopy__A0 k b L σ) := by
  intro k
  induction k with
  | zero => intro b L σ _; exact Gy_no
  | succ k ih =>
    intro b L σ hb
    match b with
    | 0 =>
      refine Gy_eq (by rw [y_X1_makeCopy__A0]) ?_
      exact Gy_ite (ih _ _ _ hb) (Gy_so hb)
    | 1 =>
      refine Gy_eq (by rw [y_X1_makeCopy__A0]) ?_
      exact Gy_ite (Gy_so (KG_o (KG_I (by decide) hb) rfl)) (Gy_no)
    | b + 2 =>
      exact Gy_eq (by rw [y_X1_makeCopy__A0]) Gy_no
theorem kg_f_X3_data {P : Nat} : ∀ (k b : Nat) (L : LV) (σ : CS), KG P σ → Gf P (f_X3_data k b L σ) := by
  intro k
  induction k with
  | zero => intro b L σ _; exact Gf_no
  | succ k ih =>
    intro b L σ hb
    match b with
    | 0 =>
      refine Gf_eq (by rw [f_X3_data]) ?_
      exact Gf_ite (ih _ _ _ hb) (Gf_ite (ih _ _ _ hb) (Gf_ite (ih _ _ _ hb) (Gf_ite (ih _ _ _ hb) (Gf_ite (ih _ _ _ hb) (Gf_ite (ih _ _ _ hb) (Gf_ite (ih _ _ _ hb) (Gf_ite (ih _ _ _ hb) (Gf_ite (ih _ _ _ hb) (Gf_ite (ih _ _ _ hb) (Gf_ite (ih _ _ _ hb) (ih _ _ _ hb)))))))))))
    | 1 =>
      refine Gf_eq (by rw [f_X3_data]) ?_
      exact Gf_oP (fun _ => Gf_ite (Gf_ox (kg_f_X3_push _ _ _ _ hb) (fun _ h565 => ih _ _ _ (KG_I (by decide) h565))) (Gf_no))
    | 2 =>
      refine Gf_eq (by rw [f_X3_data]) ?_
      exact Gf_oP (fun _ => Gf_ite (Gf_ox (kg_f_X3_give _ _ _ _ hb) (fun _ h566 => ih _ _ _ (KG_I (by decide) h566))) (Gf_no))
    | 3 =>
      refine Gf_eq (by rw [f_X3_data]) ?_
      exact Gf_oP (fun _ => Gf_op (kg_y_X1_makeCopy__A0 _ _ _ _ hb) (fun _ h567 => Gf_ox (kg_f_X3_give _ _ _ _ h567) (fun _ h568 => ih _ _ _ (KG_I (by decide) h568))))
    | 4 =>
      refine Gf_eq (by rw [f_X3_data]) ?_
      exact Gf_ite (Gf_ox (kg_f_X3_push _ _ _ _ hb) (fun _ h569 => ih _ _ _ h569)) (Gf_no)
    | 5 =>
      refine Gf_eq (by rw [f_X3_data]) ?_
      exact Gf_ite (Gf_ox (kg_f_X3_push _ _ _ _ hb) (fun _ h570 => ih _ _ _ h570)) (Gf_no)
    | 6 =>
      refine Gf_eq (by rw [f_X3_data]) ?_
      exact ih _ _ _ (KG_I (by decide) hb)
    | 7 =>
      refine Gf_eq (by rw [f_X3_data]) ?_
      exact Gf_ite (Gf_ox (kg_f_X3_push _ _ _ _ hb) (fun _ h571 => ih _ _ _ h571)) (Gf_no)
    | 8 =>
      refine Gf_eq (by rw [f_X3_data]) ?_
      exact Gf_ite (Gf_ite (Gf_ite (Gf_ite (ih _ _ _ (KG_o (KG_o hb rfl) rfl)) (Gf_no)) (Gf_no)) (Gf_no)) (Gf_no)
    | 9 =>
      refine Gf_eq (by rw [f_X3_data]) ?_
      exact Gf_ite (Gf_op (kg_y_X1_size _ _ _ _ hb) (fun _ h572 => Gf_op (kg_y_X3_spend _ _ _ _ h572) (fun _ h573 => ih _ _ _ h573))) (Gf_no)
    | 10 =>
      refine Gf_eq (by rw [f_X3_data]) ?_
      exact Gf_ite (Gf_ox (kg_f_X3_push _ _ _ _ hb) (fun _ h574 => ih _ _ _ h574)) (Gf_no)
    | 11 =>
      refine Gf_eq (by rw [f_X3_data]) ?_
      exact Gf_ox (kg_f_X3_pushAll _ _ _ _ hb) (fun _ h575 => ih _ _ _ h575)
    | 12 =>
      refine Gf_eq (by rw [f_X3_data]) ?_
      exact Gf_so hb
    | b + 13 =>
      exact Gf_eq (by rw [f_X3_data]) Gf_no
theorem kg_f_X3_newAtom {P : Nat} : ∀ (k b : Nat) (L : LV) (σ : CS), KG P σ → Gf P (f_X3_newAtom k b L σ) := by
  intro k
  induction k with
  | zero => intro b L σ _; exact Gf_no
  | succ k ih =>
    intro b L σ hb
    match b with
    | 0 =>
      refine Gf_eq (by rw [f_X3_newAtom]) ?_
      exact Gf_ite (ih _ _ _ hb) (Gf_op (kg_y_X3_fail _ _ _ _ hb) (fun _ h576 => Gf_so h576))
    | 1 =>
      refine Gf_eq (by rw [f_X3_newAtom]) ?_
      exact Gf_ox (kg_f_X3_give _ _ _ _ (KG_I (by decide) hb)) (fun _ h577 => Gf_so h577)
    | b + 2 =>
      exact Gf_eq (by rw [f_X3_newAtom]) Gf_no
theorem kg_y_X0_insert__z20 {P : Nat} : ∀ (k b : Nat) (L : LV) (σ : CS), KG P σ → Gy P (y_X0_insert__z20 k b L σ) := by
  intro k
  induction k with
  | zero => intro b L σ _; exact Gy_no
  | succ k ih =>
    intro b L σ hb
    match b with
    | 0 =>
      refine Gy_eq (by rw [y_X0_insert__z20]) ?_
      exact Gy_ite (ih _ _ _ hb) (Gy_ite (Gy_oc (kg_y_X1_compare _ _ _ _ hb) (fun _ h578 => Gy_ite (ih _ _ _ h578) (ih _ _ _ h578))) (Gy_no))
    | 1 =>
      refine Gy_eq (by rw [y_X0_insert__z20]) ?_
      exact ih _ _ _ hb
    | 2 =>
      refine Gy_eq (by rw [y_X0_insert__z20]) ?_
      exact Gy_ite (ih _ _ _ hb) (Gy_ite (ih _ _ _ hb) (Gy_ite (Gy_oc (kg_y_X1_compare _ _ _ _ hb) (fun _ h579 => Gy_ite (ih _ _ _ h579) (ih _ _ _ h579))) (Gy_no)))
    | 3 =>
      refine Gy_eq (by rw [y_X0_insert__z20]) ?_
      exact Gy_ite (ih _ _ _ hb) (Gy_ite (Gy_oc (kg_y_X1_same _ _ _ _ hb) (fun _ h580 => Gy_ite (ih _ _ _ h580) (Gy_so h580))) (Gy_no))
    | 4 =>
      refine Gy_eq (by rw [y_X0_insert__z20]) ?_
      exact ih _ _ _ hb
    | 5 =>
      refine Gy_eq (by rw [y_X0_insert__z20]) ?_
      exact ih _ _ _ hb
    | 6 =>
      refine Gy_eq (by rw [y_X0_insert__z20]) ?_
      exact Gy_ite (Gy_ite (Gy_so (KG_o (KG_o hb rfl) rfl)) (Gy_no)) (Gy_no)
    | b + 7 =>
      exact Gy_eq (by rw [y_X0_insert__z20]) Gy_no
theorem kg_y_X1_makeRow__z20 {P : Nat} : ∀ (k b : Nat) (L : LV) (σ : CS), KG P σ → Gy P (y_X1_makeRow__z20 k b L σ) := by
  intro k
  induction k with
  | zero => intro b L σ _; exact Gy_no
  | succ k ih =>
    intro b L σ hb
    match b with
    | 0 =>
      refine Gy_eq (by rw [y_X1_makeRow__z20]) ?_
      exact Gy_ite (ih _ _ _ hb) (Gy_ite (ih _ _ _ hb) (ih _ _ _ hb))
    | 1 =>
      refine Gy_eq (by rw [y_X1_makeRow__z20]) ?_
      exact Gy_ite (ih _ _ _ hb) (ih _ _ _ hb)
    | 2 =>
      refine Gy_eq (by rw [y_X1_makeRow__z20]) ?_
      exact ih _ _ _ hb
    | 3 =>
      refine Gy_eq (by rw [y_X1_makeRow__z20]) ?_
      exact Gy_so hb
    | 4 =>
      refine Gy_eq (by rw [y_X1_makeRow__z20]) ?_
      exact ih _ _ _ hb
    | 5 =>
      refine Gy_eq (by rw [y_X1_makeRow__z20]) ?_
      exact ih _ _ _ hb
    | 6 =>
      refine Gy_eq (by rw [y_X1_makeRow__z20]) ?_
      exact Gy_ite (ih _ _ _ hb) (Gy_ite (ih _ _ _ hb) (Gy_ite (Gy_ite (ih _ _ _ hb) (Gy_ite (Gy_ite (ih _ _ _ hb) (ih _ _ _ hb)) (Gy_no))) (Gy_no)))
    | 7 =>
      refine Gy_eq (by rw [y_X1_makeRow__z20]) ?_
      exact Gy_ite (ih _ _ _ hb) (Gy_ite (ih _ _ _ hb) (ih _ _ _ hb))
    | 8 =>
      refine Gy_eq (by rw [y_X1_makeRow__z20]) ?_
      exact Gy_ite (ih _ _ _ hb) (Gy_ite (Gy_ite (ih _ _ _ hb) (ih _ _ _ hb)) (ih _ _ _ hb))
    | 9 =>
      refine Gy_eq (by rw [y_X1_makeRow__z20]) ?_
      exact ih _ _ _ hb
    | 10 =>
      refine Gy_eq (by rw [y_X1_makeRow__z20]) ?_
      exact Gy_ite (ih _ _ _ hb) (Gy_ite (ih _ _ _ hb) (ih _ _ _ hb))
    | 11 =>
      refine Gy_eq (by rw [y_X1_makeRow__z20]) ?_
      exact Gy_so hb
    | 12 =>
      refine Gy_eq (by rw [y_X1_makeRow__z20]) ?_
      exact Gy_ite (ih _ _ _ hb) (Gy_so hb)
    | 13 =>
      refine Gy_eq (by rw [y_X1_makeRow__z20]) ?_
      exact ih _ _ _ hb
    | 14 =>
      refine Gy_eq (by rw [y_X1_makeRow__z20]) ?_
      exact ih _ _ _ hb
    | 15 =>
      refine Gy_eq (by rw [y_X1_makeRow__z20]) ?_
      exact ih _ _ _ hb
    | 16 =>
      refine Gy_eq (by rw [y_X1_makeRow__z20]) ?_
      exact ih _ _ _ hb
    | 17 =>
      refine Gy_eq (by rw [y_X1_makeRow__z20]) ?_
      exact Gy_ite (ih _ _ _ (KG_I (by decide) hb)) (ih _ _ _ (KG_I (by decide) hb))
    | 18 =>
      refine Gy_eq (by rw [y_X1_makeRow__z20]) ?_
      exact ih _ _ _ hb
    | 19 =>
      refine Gy_eq (by rw [y_X1_makeRow__z20]) ?_
      exact ih _ _ _ hb
    | 20 =>
      refine Gy_eq (by rw [y_X1_makeRow__z20]) ?_
      exact ih _ _ _ hb
    | 21 =>
      refine Gy_eq (by rw [y_X1_makeRow__z20]) ?_
      exact Gy_ite (Gy_ite (Gy_so (KG_o (KG_o hb rfl) rfl)) (Gy_no)) (Gy_no)
    | b + 22 =>
      exact Gy_eq (by rw [y_X1_makeRow__z20]) Gy_no
theorem kg_y_X0_setOf__z20 {P : Nat} : ∀ (k b : Nat) (L : LV) (σ : CS), KG P σ → Gy P (y_X0_setOf__z20 k b L σ) := by
  intro k
  induction k with
  | zero => intro b L σ _; exact Gy_no
  | succ k ih =>
    intro b L σ hb
    match b with
    | 0 =>
      refine Gy_eq (by rw [y_X0_setOf__z20]) ?_
      exact ih _ _ _ hb
    | 1 =>
      refine Gy_eq (by rw [y_X0_setOf__z20]) ?_
      exact Gy_ite (ih _ _ _ hb) (Gy_ite (Gy_ite (Gy_so hb) (ih _ _ _ hb)) (Gy_no))
    | 2 =>
      refine Gy_eq (by rw [y_X0_setOf__z20]) ?_
      exact ih _ _ _ hb
    | 3 =>
      refine Gy_eq (by rw [y_X0_setOf__z20]) ?_
      exact ih _ _ _ hb
    | 4 =>
      refine Gy_eq (by rw [y_X0_setOf__z20]) ?_
      exact Gy_ite (ih _ _ _ hb) (Gy_ite (Gy_oc (kg_y_X0_insert__z20 _ _ _ _ hb) (fun _ h581 => Gy_ite (ih _ _ _ h581) (Gy_oc (kg_y_X1_size _ _ _ _ h581) (fun _ h582 => Gy_ite (ih _ _ _ h582) (Gy_so h582))))) (Gy_no))
    | 5 =>
      refine Gy_eq (by rw [y_X0_setOf__z20]) ?_
      exact Gy_oc (kg_y_X1_makeRow__z20 _ _ _ _ hb) (fun _ h583 => Gy_so h583)
    | 6 =>
      refine Gy_eq (by rw [y_X0_setOf__z20]) ?_
      exact ih _ _ _ hb
    | b + 7 =>
      exact Gy_eq (by rw [y_X0_setOf__z20]) Gy_no
theorem kg_y_X1_makeTuple__z20 {P : Nat} : ∀ (k b : Nat) (L : LV) (σ : CS), KG P σ → Gy P (y_X1_makeTuple__z20 k b L σ) := by
  intro k
  induction k with
  | zero => intro b L σ _; exact Gy_no
  | succ k ih =>
    intro b L σ hb
    match b with
    | 0 =>
      refine Gy_eq (by rw [y_X1_makeTuple__z20]) ?_
      exact ih _ _ _ hb
    | 1 =>
      refine Gy_eq (by rw [y_X1_makeTuple__z20]) ?_
      exact Gy_ite (ih _ _ _ hb) (Gy_ite (Gy_ite (ih _ _ _ hb) (ih _ _ _ hb)) (Gy_no))
    | 2 =>
      refine Gy_eq (by rw [y_X1_makeTuple__z20]) ?_
      exact Gy_oc (kg_y_X1_makeRow__z20 _ _ _ _ hb) (fun _ h584 => Gy_so h584)
    | b + 3 =>
      exact Gy_eq (by rw [y_X1_makeTuple__z20]) Gy_no
theorem kg_f_X3_makeValue {P : Nat} : ∀ (k b : Nat) (L : LV) (σ : CS), KG P σ → Gf P (f_X3_makeValue k b L σ) := by
  intro k
  induction k with
  | zero => intro b L σ _; exact Gf_no
  | succ k ih =>
    intro b L σ hb
    match b with
    | 0 =>
      refine Gf_eq (by rw [f_X3_makeValue]) ?_
      exact Gf_ite (ih _ _ _ hb) (Gf_ite (ih _ _ _ hb) (Gf_ite (ih _ _ _ hb) (Gf_ite (ih _ _ _ hb) (Gf_ite (ih _ _ _ hb) (Gf_ite (ih _ _ _ hb) (Gf_ite (ih _ _ _ hb) (ih _ _ _ hb)))))))
    | 1 =>
      refine Gf_eq (by rw [f_X3_makeValue]) ?_
      exact Gf_op (kg_y_X0_setOf__z20 _ _ _ _ (KG_I (by decide) hb)) (fun _ h585 => Gf_ox (kg_f_X3_give _ _ _ _ h585) (fun _ h586 => ih _ _ _ h586))
    | 2 =>
      refine Gf_eq (by rw [f_X3_makeValue]) ?_
      exact Gf_op (kg_y_X1_makeTuple__z20 _ _ _ _ (KG_I (by decide) hb)) (fun _ h587 => Gf_ox (kg_f_X3_give _ _ _ _ h587) (fun _ h588 => ih _ _ _ h588))
    | 3 =>
      refine Gf_eq (by rw [f_X3_makeValue]) ?_
      exact Gf_ite (Gf_ite (Gf_ite (ih _ _ _ (KG_I (by decide) hb)) (ih _ _ _ (KG_I (by decide) hb))) (Gf_no)) (Gf_no)
    | 4 =>
      refine Gf_eq (by rw [f_X3_makeValue]) ?_
      exact Gf_ite (Gf_ite (ih _ _ _ (KG_I (by decide) hb)) (ih _ _ _ (KG_I (by decide) hb))) (Gf_no)
    | 5 =>
      refine Gf_eq (by rw [f_X3_makeValue]) ?_
      exact Gf_ox (kg_f_X3_newAtom _ _ _ _ hb) (fun _ h589 => ih _ _ _ h589)
    | 6 =>
      refine Gf_eq (by rw [f_X3_makeValue]) ?_
      exact Gf_ite (Gf_op (kg_y_X3_drawn _ _ _ _ hb) (fun _ h590 => Gf_op (kg_y_X3_replace _ _ _ _ h590) (fun _ h591 => ih _ _ _ h591))) (Gf_no)
    | 7 =>
      refine Gf_eq (by rw [f_X3_makeValue]) ?_
      exact Gf_so hb
    | 8 =>
      refine Gf_eq (by rw [f_X3_makeValue]) ?_
      exact ih _ _ _ hb
    | 9 =>
      refine Gf_eq (by rw [f_X3_makeValue]) ?_
      exact Gf_op (kg_y_X0_progression _ _ _ _ hb) (fun _ h592 => Gf_op (kg_y_X3_replace _ _ _ _ h592) (fun _ h593 => ih _ _ _ h593))
    | 10 =>
      refine Gf_eq (by rw [f_X3_makeValue]) ?_
      exact Gf_ite (Gf_ite (Gf_ite (ih _ _ _ hb) (ih _ _ _ hb)) (Gf_no)) (Gf_no)
    | 11 =>
      refine Gf_eq (by rw [f_X3_makeValue]) ?_
      exact Gf_op (kg_y_X3_replace _ _ _ _ hb) (fun _ h594 => ih _ _ _ h594)
    | 12 =>
      refine Gf_eq (by rw [f_X3_makeValue]) ?_
      exact ih _ _ _ hb
    | 13 =>
      refine Gf_eq (by rw [f_X3_makeValue]) ?_
      exact Gf_op (kg_y_X0_progression _ _ _ _ hb) (fun _ h595 => ih _ _ _ h595)
    | b + 14 =>
      exact Gf_eq (by rw [f_X3_makeValue]) Gf_no
theorem kg_y_X3_goOver__z20 {P : Nat} : ∀ (k b : Nat) (L : LV) (σ : CS), KG P σ → Gy P (y_X3_goOver__z20 k b L σ) := by
  intro k
  induction k with
  | zero => intro b L σ _; exact Gy_no
  | succ k ih =>
    intro b L σ hb
    match b with
    | 0 =>
      refine Gy_eq (by rw [y_X3_goOver__z20]) ?_
      exact Gy_oc (kg_y_X3_pop _ _ _ _ hb) (fun _ h596 => Gy_oc (kg_y_X1_kind _ _ _ _ h596) (fun _ h597 => Gy_ite (ih _ _ _ h597) (Gy_oc (kg_y_X3_fail _ _ _ _ h597) (fun _ h598 => Gy_so h598))))
    | 1 =>
      refine Gy_eq (by rw [y_X3_goOver__z20]) ?_
      exact Gy_ite (ih _ _ _ hb) (Gy_oc (kg_y_X1_size _ _ _ _ hb) (fun _ h599 => Gy_ite (ih _ _ _ h599) (Gy_oc (kg_y_X3_fail _ _ _ _ h599) (fun _ h600 => Gy_so h600))))
    | 2 =>
      refine Gy_eq (by rw [y_X3_goOver__z20]) ?_
      exact Gy_ite (Gy_oc (kg_y_X11_raw _ _ _ _ (KG_o hb rfl)) (fun _ h601 => Gy_ite (ih _ _ _ (KG_o h601 rfl)) (Gy_no))) (Gy_no)
    | 3 =>
      refine Gy_eq (by rw [y_X3_goOver__z20]) ?_
      exact ih _ _ _ (KG_I (by decide) (KG_I (by decide) hb))
    | 4 =>
      refine Gy_eq (by rw [y_X3_goOver__z20]) ?_
      exact Gy_so hb
    | b + 5 =>
      exact Gy_eq (by rw [y_X3_goOver__z20]) Gy_no
theorem kg_f_X3_nextMember__z20 {P : Nat} : ∀ (k b : Nat) (L : LV) (σ : CS), KG P σ → Gf P (f_X3_nextMember__z20 k b L σ) := by
  intro k
  induction k with
  | zero => intro b L σ _; exact Gf_no
  | succ k ih =>
    intro b L σ hb
    match b with
    | 0 =>
      refine Gf_eq (by rw [f_X3_nextMember__z20]) ?_
      exact Gf_ite (Gf_ite (Gf_op (kg_y_X11_unraw _ _ _ _ hb) (fun _ h602 => Gf_op (kg_y_X1_length _ _ _ _ h602) (fun _ h603 => Gf_ite (ih _ _ _ h603) (Gf_op (kg_y_X3_letGo__z20 _ _ _ _ h603) (fun _ h604 => Gf_oP (fun _ => Gf_ite (Gf_so (KG_I (by decide) h604)) (Gf_no))))))) (Gf_no)) (Gf_no)
    | 1 =>
      refine Gf_eq (by rw [f_X3_nextMember__z20]) ?_
      exact Gf_op (kg_y_X11_raw _ _ _ _ hb) (fun _ h605 => Gf_ite (Gf_op (kg_y_X1_taken _ _ _ _ (KG_o h605 rfl)) (fun _ h606 => Gf_ox (kg_f_X3_push _ _ _ _ h606) (fun _ h607 => ih _ _ _ (KG_I (by decide) h607)))) (Gf_no))
    | 2 =>
      refine Gf_eq (by rw [f_X3_nextMember__z20]) ?_
      exact Gf_op (kg_y_X3_spend _ _ _ _ hb) (fun _ h608 => Gf_so h608)
    | b + 3 =>
      exact Gf_eq (by rw [f_X3_nextMember__z20]) Gf_no
theorem kg_y_X3_spread__z20 {P : Nat} : ∀ (k b : Nat) (L : LV) (σ : CS), KG P σ → Gy P (y_X3_spread__z20 k b L σ) := by
  intro k
  induction k with
  | zero => intro b L σ _; exact Gy_no
  | succ k ih =>
    intro b L σ hb
    match b with
    | 0 =>
      refine Gy_eq (by rw [y_X3_spread__z20]) ?_
      exact Gy_oc (kg_y_X3_pop _ _ _ _ hb) (fun _ h609 => Gy_oc (kg_y_X1_kind _ _ _ _ h609) (fun _ h610 => Gy_ite (Gy_oc (kg_y_X1_length _ _ _ _ h610) (fun _ h611 => Gy_ite (ih _ _ _ h611) (ih _ _ _ h611))) (ih _ _ _ h610)))
    | 1 =>
      refine Gy_eq (by rw [y_X3_spread__z20]) ?_
      exact Gy_oc (kg_y_X3_fail _ _ _ _ hb) (fun _ h612 => Gy_so h612)
    | 2 =>
      refine Gy_eq (by rw [y_X3_spread__z20]) ?_
      exact ih _ _ _ hb
    | 3 =>
      refine Gy_eq (by rw [y_X3_spread__z20]) ?_
      exact Gy_ite (ih _ _ _ hb) (Gy_ite (Gy_ite (ih _ _ _ hb) (Gy_oc (kg_y_X1_member _ _ _ _ hb) (fun _ h613 => Gy_oc (kg_y_X3_assign _ _ _ _ h613) (fun _ h614 => ih _ _ _ h614)))) (ih _ _ _ hb))
    | 4 =>
      refine Gy_eq (by rw [y_X3_spread__z20]) ?_
      exact Gy_so hb
    | 5 =>
      refine Gy_eq (by rw [y_X3_spread__z20]) ?_
      exact Gy_oc (kg_y_X1_member _ _ _ _ hb) (fun _ h615 => Gy_ite (ih _ _ _ (KG_o h615 rfl)) (Gy_no))
    | 6 =>
      refine Gy_eq (by rw [y_X3_spread__z20]) ?_
      exact ih _ _ _ hb
    | b + 7 =>
      exact Gy_eq (by rw [y_X3_spread__z20]) Gy_no
theorem kg_y_X3_goOver__a23 {P : Nat} : ∀ (k b : Nat) (L : LV) (σ : CS), KG P σ → Gy P (y_X3_goOver__a23 k b L σ) := by
  intro k
  induction k with
  | zero => intro b L σ _; exact Gy_no
  | succ k ih =>
    intro b L σ hb
    match b with
    | 0 =>
      refine Gy_eq (by rw [y_X3_goOver__a23]) ?_
      exact Gy_oc (kg_y_X3_pop _ _ _ _ hb) (fun _ h616 => Gy_oc (kg_y_X1_kind _ _ _ _ h616) (fun _ h617 => Gy_ite (ih _ _ _ h617) (Gy_oc (kg_y_X3_fail _ _ _ _ h617) (fun _ h618 => Gy_so h618))))
    | 1 =>
      refine Gy_eq (by rw [y_X3_goOver__a23]) ?_
      exact Gy_ite (ih _ _ _ hb) (Gy_oc (kg_y_X1_size _ _ _ _ hb) (fun _ h619 => Gy_ite (ih _ _ _ h619) (Gy_oc (kg_y_X3_fail _ _ _ _ h619) (fun _ h620 => Gy_so h620))))
    | 2 =>
      refine Gy_eq (by rw [y_X3_goOver__a23]) ?_
      exact Gy_ite (Gy_oc (kg_y_X11_raw _ _ _ _ (KG_o hb rfl)) (fun _ h621 => Gy_ite (ih _ _ _ (KG_o h621 rfl)) (Gy_no))) (Gy_no)
    | 3 =>
      refine Gy_eq (by rw [y_X3_goOver__a23]) ?_
      exact ih _ _ _ (KG_I (by decide) (KG_I (by decide) hb))
    | 4 =>
      refine Gy_eq (by rw [y_X3_goOver__a23]) ?_
      exact Gy_so hb
    | b + 5 =>
      exact Gy_eq (by rw [y_X3_goOver__a23]) Gy_no
theorem kg_y_X3_letGo__a23 {P : Nat} : ∀ (k b : Nat) (L : LV) (σ : CS), KG P σ → Gy P (y_X3_letGo__a23 k b L σ) := by
  intro k
  induction k with
  | zero => intro b L σ _; exact Gy_no
  | succ k ih =>
    intro b L σ hb
    match b with
    | 0 =>
      refine Gy_eq (by rw [y_X3_letGo__a23]) ?_
      exact Gy_ite (ih _ _ _ hb) (Gy_ite (Gy_ite (ih _ _ _ hb) (Gy_ite (Gy_oc (kg_y_X1_size _ _ _ _ hb) (fun _ h622 => ih _ _ _ (KG_I (by decide) (KG_I (by decide) h622)))) (Gy_no))) (Gy_no))
    | 1 =>
      refine Gy_eq (by rw [y_X3_letGo__a23]) ?_
      exact Gy_ite (Gy_ite (Gy_so (KG_o (KG_o hb rfl) rfl)) (Gy_no)) (Gy_no)
    | b + 2 =>
      exact Gy_eq (by rw [y_X3_letGo__a23]) Gy_no
theorem kg_f_X3_nextMember__a23 {P : Nat} : ∀ (k b : Nat) (L : LV) (σ : CS), KG P σ → Gf P (f_X3_nextMember__a23 k b L σ) := by
  intro k
  induction k with
  | zero => intro b L σ _; exact Gf_no
  | succ k ih =>
    intro b L σ hb
    match b with
    | 0 =>
      refine Gf_eq (by rw [f_X3_nextMember__a23]) ?_
      exact Gf_ite (Gf_ite (Gf_op (kg_y_X11_unraw _ _ _ _ hb) (fun _ h623 => Gf_op (kg_y_X1_length _ _ _ _ h623) (fun _ h624 => Gf_ite (ih _ _ _ h624) (Gf_op (kg_y_X3_letGo__a23 _ _ _ _ h624) (fun _ h625 => Gf_oP (fun _ => Gf_ite (Gf_so (KG_I (by decide) h625)) (Gf_no))))))) (Gf_no)) (Gf_no)
    | 1 =>
      refine Gf_eq (by rw [f_X3_nextMember__a23]) ?_
      exact Gf_op (kg_y_X11_raw _ _ _ _ hb) (fun _ h626 => Gf_ite (Gf_op (kg_y_X1_taken _ _ _ _ (KG_o h626 rfl)) (fun _ h627 => Gf_ox (kg_f_X3_push _ _ _ _ h627) (fun _ h628 => ih _ _ _ (KG_I (by decide) h628)))) (Gf_no))
    | 2 =>
      refine Gf_eq (by rw [f_X3_nextMember__a23]) ?_
      exact Gf_op (kg_y_X3_spend _ _ _ _ hb) (fun _ h629 => Gf_so h629)
    | b + 3 =>
      exact Gf_eq (by rw [f_X3_nextMember__a23]) Gf_no
theorem kg_y_X3_spread__a23 {P : Nat} : ∀ (k b : Nat) (L : LV) (σ : CS), KG P σ → Gy P (y_X3_spread__a23 k b L σ) := by
  intro k
  induction k with
  | zero => intro b L σ _; exact Gy_no
  | succ k ih =>
    intro b L σ hb
    match b with
    | 0 =>
      refine Gy_eq (by rw [y_X3_spread__a23]) ?_
      exact Gy_oc (kg_y_X3_pop _ _ _ _ hb) (fun _ h630 => Gy_oc (kg_y_X1_kind _ _ _ _ h630) (fun _ h631 => Gy_ite (Gy_oc (kg_y_X1_length _ _ _ _ h631) (fun _ h632 => Gy_ite (ih _ _ _ h632) (ih _ _ _ h632))) (ih _ _ _ h631)))
    | 1 =>
      refine Gy_eq (by rw [y_X3_spread__a23]) ?_
      exact Gy_oc (kg_y_X3_fail _ _ _ _ hb) (fun _ h633 => Gy_so h633)
    | 2 =>
      refine Gy_eq (by rw [y_X3_spread__a23]) ?_
      exact ih _ _ _ hb
    | 3 =>
      refine Gy_eq (by rw [y_X3_spread__a23]) ?_
      exact Gy_ite (ih _ _ _ hb) (Gy_ite (Gy_ite (ih _ _ _ hb) (Gy_oc (kg_y_X1_member _ _ _ _ hb) (fun _ h634 => Gy_oc (kg_y_X3_assign _ _ _ _ h634) (fun _ h635 => ih _ _ _ h635)))) (ih _ _ _ hb))
    | 4 =>
      refine Gy_eq (by rw [y_X3_spread__a23]) ?_
      exact Gy_so hb
    | 5 =>
      refine Gy_eq (by rw [y_X3_spread__a23]) ?_
      exact Gy_oc (kg_y_X1_member _ _ _ _ hb) (fun _ h636 => Gy_ite (ih _ _ _ (KG_o h636 rfl)) (Gy_no))
    | 6 =>
      refine Gy_eq (by rw [y_X3_spread__a23]) ?_
      exact ih _ _ _ hb
    | b + 7 =>
      exact Gy_eq (by rw [y_X3_spread__a23]) Gy_no
theorem kg_f_X3_iterate {P : Nat} : ∀ (k b : Nat) (L : LV) (σ : CS), KG P σ → Gf P (f_X3_iterate k b L σ) := by
  intro k
  induction k with
  | zero => intro b L σ _; exact Gf_no
  | succ k ih =>
    intro b L σ hb
    match b with
    | 0 =>
      refine Gf_eq (by rw [f_X3_iterate]) ?_
      exact Gf_ite (ih _ _ _ hb) (ih _ _ _ hb)
    | 1 =>
      refine Gf_eq (by rw [f_X3_iterate]) ?_
      exact ih _ _ _ hb
    | 2 =>
      refine Gf_eq (by rw [f_X3_iterate]) ?_
      exact Gf_ite (ih _ _ _ hb) (ih _ _ _ hb)
    | 3 =>
      refine Gf_eq (by rw [f_X3_iterate]) ?_
      exact ih _ _ _ hb
    | 4 =>
      refine Gf_eq (by rw [f_X3_iterate]) ?_
      exact Gf_ite (ih _ _ _ hb) (ih _ _ _ hb)
    | 5 =>
      refine Gf_eq (by rw [f_X3_iterate]) ?_
      exact Gf_ite (ih _ _ _ hb) (ih _ _ _ hb)
    | 6 =>
      refine Gf_eq (by rw [f_X3_iterate]) ?_
      exact ih _ _ _ hb
    | 7 =>
      refine Gf_eq (by rw [f_X3_iterate]) ?_
      exact Gf_ite (ih _ _ _ hb) (Gf_ite (ih _ _ _ hb) (Gf_ite (ih _ _ _ hb) (Gf_ite (ih _ _ _ hb) (Gf_ite (ih _ _ _ hb) (Gf_ite (ih _ _ _ hb) (Gf_ite (ih _ _ _ hb) (Gf_ite (ih _ _ _ hb) (Gf_ite (ih _ _ _ hb) (ih _ _ _ hb)))))))))
    | 8 =>
      refine Gf_eq (by rw [f_X3_iterate]) ?_
      exact ih _ _ _ hb
    | 9 =>
      refine Gf_eq (by rw [f_X3_iterate]) ?_
      exact Gf_ite (ih _ _ _ hb) (Gf_ite (ih _ _ _ hb) (Gf_ite (ih _ _ _ hb) (Gf_ite (ih _ _ _ hb) (Gf_ite (ih _ _ _ hb) (Gf_ite (ih _ _ _ hb) (Gf_ite (ih _ _ _ hb) (Gf_ite (ih _ _ _ hb) (Gf_ite (ih _ _ _ hb) (ih _ _ _ hb)))))))))
    | 10 =>
      refine Gf_eq (by rw [f_X3_iterate]) ?_
      exact Gf_op (kg_y_X3_goOver__z20 _ _ _ _ hb) (fun _ h637 => ih _ _ _ h637)
    | 11 =>
      refine Gf_eq (by rw [f_X3_iterate]) ?_
      exact Gf_ox (kg_f_X3_nextMember__z20 _ _ _ _ hb) (fun _ h638 => ih _ _ _ h638)
    | 12 =>
      refine Gf_eq (by rw [f_X3_iterate]) ?_
      exact Gf_op (kg_y_X3_pop _ _ _ _ hb) (fun _ h639 => Gf_ite (ih _ _ _ (KG_o h639 rfl)) (Gf_no))
    | 13 =>
      refine Gf_eq (by rw [f_X3_iterate]) ?_
      exact Gf_oP (fun _ => Gf_ite (Gf_op (kg_y_X3_spread__z20 _ _ _ _ hb) (fun _ h640 => ih _ _ _ (KG_I (by decide) h640))) (Gf_no))
    | 14 =>
      refine Gf_eq (by rw [f_X3_iterate]) ?_
      exact Gf_oP (fun _ => Gf_ite (ih _ _ _ hb) (Gf_no))
    | 15 =>
      refine Gf_eq (by rw [f_X3_iterate]) ?_
      exact Gf_op (kg_y_X3_pop _ _ _ _ hb) (fun _ h641 => Gf_op (kg_y_X3_assign _ _ _ _ h641) (fun _ h642 => ih _ _ _ h642))
    | 16 =>
      refine Gf_eq (by rw [f_X3_iterate]) ?_
      exact Gf_oP (fun _ => Gf_ite (Gf_oP (fun _ => Gf_ite (Gf_op (kg_y_X3_clearFor _ _ _ _ hb) (fun _ h643 => ih _ _ _ (KG_I (by decide) h643))) (Gf_no))) (Gf_no))
    | 17 =>
      refine Gf_eq (by rw [f_X3_iterate]) ?_
      exact Gf_op (kg_y_X3_goOver__a23 _ _ _ _ hb) (fun _ h644 => ih _ _ _ h644)
    | 18 =>
      refine Gf_eq (by rw [f_X3_iterate]) ?_
      exact Gf_ox (kg_f_X3_nextMember__a23 _ _ _ _ hb) (fun _ h645 => ih _ _ _ h645)
    | 19 =>
      refine Gf_eq (by rw [f_X3_iterate]) ?_
      exact Gf_op (kg_y_X3_pop _ _ _ _ hb) (fun _ h646 => Gf_ite (ih _ _ _ (KG_o h646 rfl)) (Gf_no))
    | 20 =>
      refine Gf_eq (by rw [f_X3_iterate]) ?_
      exact Gf_oP (fun _ => Gf_ite (Gf_op (kg_y_X3_spread__a23 _ _ _ _ hb) (fun _ h647 => ih _ _ _ (KG_I (by decide) h647))) (Gf_no))
    | 21 =>
      refine Gf_eq (by rw [f_X3_iterate]) ?_
      exact Gf_oP (fun _ => Gf_ite (ih _ _ _ hb) (Gf_no))
    | 22 =>
      refine Gf_eq (by rw [f_X3_iterate]) ?_
      exact Gf_so hb
    | 23 =>
      refine Gf_eq (by rw [f_X3_iterate]) ?_
      exact Gf_ite (ih _ _ _ hb) (Gf_ite (ih _ _ _ (KG_o hb rfl)) (Gf_no))
    | 24 =>
      refine Gf_eq (by rw [f_X3_iterate]) ?_
      exact Gf_ite (ih _ _ _ hb) (Gf_ite (ih _ _ _ (KG_o hb rfl)) (Gf_no))
    | 25 =>
      refine Gf_eq (by rw [f_X3_iterate]) ?_
      exact ih _ _ _ (KG_I (by decide) hb)
    | b + 26 =>
      exact Gf_eq (by rw [f_X3_iterate]) Gf_no
theorem kg_f_X3_joinSet {P : Nat} : ∀ (k b : Nat) (L : LV) (σ : CS), KG P σ → Gf P (f_X3_joinSet k b L σ) := by
  intro k
  induction k with
  | zero => intro b L σ _; exact Gf_no
  | succ k ih =>
    intro b L σ hb
    match b with
    | 0 =>
      refine Gf_eq (by rw [f_X3_joinSet]) ?_
      exact ih _ _ _ hb
    | 1 =>
      refine Gf_eq (by rw [f_X3_joinSet]) ?_
      exact Gf_ite (ih _ _ _ hb) (Gf_ite (Gf_ite (Gf_ite (ih _ _ _ hb) (ih _ _ _ hb)) (ih _ _ _ hb)) (Gf_no))
    | 2 =>
      refine Gf_eq (by rw [f_X3_joinSet]) ?_
      exact Gf_ite (ih _ _ _ hb) (ih _ _ _ hb)
    | 3 =>
      refine Gf_eq (by rw [f_X3_joinSet]) ?_
      exact ih _ _ _ hb
    | 4 =>
      refine Gf_eq (by rw [f_X3_joinSet]) ?_
      exact ih _ _ _ hb
    | 5 =>
      refine Gf_eq (by rw [f_X3_joinSet]) ?_
      exact Gf_ite (ih _ _ _ hb) (Gf_no)
    | 6 =>
      refine Gf_eq (by rw [f_X3_joinSet]) ?_
      exact Gf_ite (Gf_op (kg_y_X11_raw _ _ _ _ (KG_I (by decide) (KG_o hb rfl))) (fun _ h648 => ih _ _ _ h648)) (Gf_no)
    | 7 =>
      refine Gf_eq (by rw [f_X3_joinSet]) ?_
      exact Gf_ite (ih _ _ _ hb) (Gf_op (kg_y_X0_insert__z20 _ _ _ _ hb) (fun _ h649 => Gf_ite (ih _ _ _ h649) (Gf_op (kg_y_X1_size _ _ _ _ h649) (fun _ h650 => ih _ _ _ h650))))
    | 8 =>
      refine Gf_eq (by rw [f_X3_joinSet]) ?_
      exact Gf_ox (kg_f_X3_push _ _ _ _ hb) (fun _ h651 => Gf_ite (ih _ _ _ h651) (ih _ _ _ h651))
    | 9 =>
      refine Gf_eq (by rw [f_X3_joinSet]) ?_
      exact ih _ _ _ hb
    | 10 =>
      refine Gf_eq (by rw [f_X3_joinSet]) ?_
      exact ih _ _ _ hb
    | 11 =>
      refine Gf_eq (by rw [f_X3_joinSet]) ?_
      exact Gf_op (kg_y_X11_raw _ _ _ _ hb) (fun _ h652 => Gf_ox (kg_f_X3_push _ _ _ _ h652) (fun _ h653 => Gf_so h653))
    | b + 12 =>
      exact Gf_eq (by rw [f_X3_joinSet]) Gf_no
theorem kg_f_X3_joinTuple {P : Nat} : ∀ (k b : Nat) (L : LV) (σ : CS), KG P σ → Gf P (f_X3_joinTuple k b L σ) := by
  intro k
  induction k with
  | zero => intro b L σ _; exact Gf_no
  | succ k ih =>
    intro b L σ hb
    match b with
    | 0 =>
      refine Gf_eq (by rw [f_X3_joinTuple]) ?_
      exact ih _ _ _ hb
    | 1 =>
      refine Gf_eq (by rw [f_X3_joinTuple]) ?_
      exact Gf_ite (ih _ _ _ hb) (Gf_ite (Gf_op (kg_y_X1_size _ _ _ _ hb) (fun _ h654 => Gf_ite (Gf_ite (Gf_ite (ih _ _ _ h654) (Gf_ite (ih _ _ _ h654) (ih _ _ _ h654))) (Gf_no)) (ih _ _ _ h654))) (Gf_no))
    | 2 =>
      refine Gf_eq (by rw [f_X3_joinTuple]) ?_
      exact Gf_op (kg_y_X11_raw _ _ _ _ hb) (fun _ h655 => Gf_ox (kg_f_X3_push _ _ _ _ h655) (fun _ h656 => Gf_ite (ih _ _ _ h656) (ih _ _ _ h656)))
    | 3 =>
      refine Gf_eq (by rw [f_X3_joinTuple]) ?_
      exact ih _ _ _ hb
    | 4 =>
      refine Gf_eq (by rw [f_X3_joinTuple]) ?_
      exact ih _ _ _ hb
    | 5 =>
      refine Gf_eq (by rw [f_X3_joinTuple]) ?_
      exact ih _ _ _ hb
    | 6 =>
      refine Gf_eq (by rw [f_X3_joinTuple]) ?_
      exact Gf_op (kg_y_X11_raw _ _ _ _ hb) (fun _ h657 => Gf_ox (kg_f_X3_push _ _ _ _ h657) (fun _ h658 => Gf_so h658))
    | 7 =>
      refine Gf_eq (by rw [f_X3_joinTuple]) ?_
      exact ih _ _ _ hb
    | b + 8 =>
      exact Gf_eq (by rw [f_X3_joinTuple]) Gf_no
theorem kg_f_X3_gatherIntoSet {P : Nat} : ∀ (k b : Nat) (L : LV) (σ : CS), KG P σ → Gf P (f_X3_gatherIntoSet k b L σ) := by
  intro k
  induction k with
  | zero => intro b L σ _; exact Gf_no
  | succ k ih =>
    intro b L σ hb
    match b with
    | 0 =>
      refine Gf_eq (by rw [f_X3_gatherIntoSet]) ?_
      exact Gf_ite (Gf_op (kg_y_X11_unraw _ _ _ _ hb) (fun _ h659 => Gf_ite (Gf_op (kg_y_X11_unraw _ _ _ _ h659) (fun _ h660 => Gf_ite (Gf_ite (Gf_op (kg_y_X3_fail _ _ _ _ h660) (fun _ h661 => Gf_so h661)) (ih _ _ _ h660)) (ih _ _ _ h660))) (Gf_no))) (Gf_no)
    | 1 =>
      refine Gf_eq (by rw [f_X3_gatherIntoSet]) ?_
      exact Gf_ite (ih _ _ _ hb) (Gf_ite (ih _ _ _ hb) (ih _ _ _ hb))
    | 2 =>
      refine Gf_eq (by rw [f_X3_gatherIntoSet]) ?_
      exact Gf_ox (kg_f_X3_push _ _ _ _ hb) (fun _ h662 => Gf_op (kg_y_X0_insert__z20 _ _ _ _ (KG_I (by decide) h662)) (fun _ h663 => Gf_ite (ih _ _ _ h663) (Gf_op (kg_y_X11_raw _ _ _ _ (KG_I (by decide) h663)) (fun _ h664 => ih _ _ _ h664))))
    | 3 =>
      refine Gf_eq (by rw [f_X3_gatherIntoSet]) ?_
      exact Gf_ite (ih _ _ _ hb) (Gf_no)
    | 4 =>
      refine Gf_eq (by rw [f_X3_gatherIntoSet]) ?_
      exact Gf_ite (Gf_so (KG_o hb rfl)) (Gf_no)
    | 5 =>
      refine Gf_eq (by rw [f_X3_gatherIntoSet]) ?_
      exact Gf_so hb
    | 6 =>
      refine Gf_eq (by rw [f_X3_gatherIntoSet]) ?_
      exact Gf_ite (Gf_op (kg_y_X1_size _ _ _ _ (KG_o hb rfl)) (fun _ h665 => Gf_ite (ih _ _ _ h665) (ih _ _ _ h665))) (Gf_no)
    | 7 =>
      refine Gf_eq (by rw [f_X3_gatherIntoSet]) ?_
      exact Gf_op (kg_y_X1_size _ _ _ _ hb) (fun _ h666 => ih _ _ _ h666)
    | 8 =>
      refine Gf_eq (by rw [f_X3_gatherIntoSet]) ?_
      exact Gf_op (kg_y_X11_raw _ _ _ _ hb) (fun _ h667 => Gf_ite (ih _ _ _ (KG_o h667 rfl)) (Gf_no))
    | b + 9 =>
      exact Gf_eq (by rw [f_X3_gatherIntoSet]) Gf_no
theorem kg_f_X3_gatherIntoTuple {P : Nat} : ∀ (k b : Nat) (L : LV) (σ : CS), KG P σ → Gf P (f_X3_gatherIntoTuple k b L σ) := by
  intro k
  induction k with
  | zero => intro b L σ _; exact Gf_no
  | succ k ih =>
    intro b L σ hb
    match b with
    | 0 =>
      refine Gf_eq (by rw [f_X3_gatherIntoTuple]) ?_
      exact Gf_ite (Gf_op (kg_y_X11_unraw _ _ _ _ hb) (fun _ h668 => Gf_ite (Gf_op (kg_y_X11_unraw _ _ _ _ h668) (fun _ h669 => Gf_ite (ih _ _ _ h669) (Gf_ite (Gf_ite (ih _ _ _ h669) (ih _ _ _ h669)) (ih _ _ _ h669)))) (Gf_no))) (Gf_no)
    | 1 =>
      refine Gf_eq (by rw [f_X3_gatherIntoTuple]) ?_
      exact Gf_so hb
    | 2 =>
      refine Gf_eq (by rw [f_X3_gatherIntoTuple]) ?_
      exact Gf_op (kg_y_X1_size _ _ _ _ hb) (fun _ h670 => Gf_ite (ih _ _ _ h670) (Gf_ite (ih _ _ _ h670) (Gf_ite (ih _ _ _ h670) (ih _ _ _ h670))))
    | 3 =>
      refine Gf_eq (by rw [f_X3_gatherIntoTuple]) ?_
      exact Gf_ite (Gf_ite (Gf_op (kg_y_X11_raw _ _ _ _ (KG_o hb rfl)) (fun _ h671 => Gf_ite (ih _ _ _ (KG_o h671 rfl)) (Gf_no))) (Gf_no)) (Gf_no)
    | 4 =>
      refine Gf_eq (by rw [f_X3_gatherIntoTuple]) ?_
      exact Gf_op (kg_y_X11_raw _ _ _ _ hb) (fun _ h672 => Gf_ite (Gf_so (KG_o h672 rfl)) (Gf_no))
    | 5 =>
      refine Gf_eq (by rw [f_X3_gatherIntoTuple]) ?_
      exact Gf_ox (kg_f_X3_push _ _ _ _ hb) (fun _ h673 => Gf_op (kg_y_X11_raw _ _ _ _ h673) (fun _ h674 => Gf_ite (Gf_so (KG_o h674 rfl)) (Gf_no)))
    | b + 6 =>
      exact Gf_eq (by rw [f_X3_gatherIntoTuple]) Gf_no
theorem kg_f_X3_gathered {P : Nat} : ∀ (k b : Nat) (L : LV) (σ : CS), KG P σ → Gf P (f_X3_gathered k b L σ) := by
  intro k
  induction k with
  | zero => intro b L σ _; exact Gf_no
  | succ k ih =>
    intro b L σ hb
    match b with
    | 0 =>
      refine Gf_eq (by rw [f_X3_gathered]) ?_
      exact Gf_ite (Gf_op (kg_y_X11_unraw _ _ _ _ hb) (fun _ h675 => Gf_ite (Gf_op (kg_y_X11_unraw _ _ _ _ h675) (fun _ h676 => ih _ _ _ (KG_I (by decide) h676))) (Gf_no))) (Gf_no)
    | 1 =>
      refine Gf_eq (by rw [f_X3_gathered]) ?_
      exact Gf_ite (ih _ _ _ hb) (Gf_ite (ih _ _ _ hb) (Gf_ite (Gf_ite (Gf_op (kg_y_X3_fail _ _ _ _ hb) (fun _ h677 => ih _ _ _ h677)) (ih _ _ _ hb)) (Gf_no)))
    | 2 =>
      refine Gf_eq (by rw [f_X3_gathered]) ?_
      exact Gf_ite (ih _ _ _ hb) (Gf_op (kg_y_X3_fail _ _ _ _ hb) (fun _ h678 => ih _ _ _ h678))
    | 3 =>
      refine Gf_eq (by rw [f_X3_gathered]) ?_
      exact Gf_so hb
    | 4 =>
      refine Gf_eq (by rw [f_X3_gathered]) ?_
      exact Gf_ite (ih _ _ _ hb) (Gf_op (kg_y_X1_makeRow__z20 _ _ _ _ hb) (fun _ h679 => ih _ _ _ h679))
    | 5 =>
      refine Gf_eq (by rw [f_X3_gathered]) ?_
      exact Gf_op (kg_y_X1_makeTuple__z20 _ _ _ _ hb) (fun _ h680 => ih _ _ _ h680)
    | 6 =>
      refine Gf_eq (by rw [f_X3_gathered]) ?_
      exact Gf_ox (kg_f_X3_give _ _ _ _ hb) (fun _ h681 => ih _ _ _ h681)
    | b + 7 =>
      exact Gf_eq (by rw [f_X3_gathered]) Gf_no
theorem kg_f_X3_gather {P : Nat} : ∀ (k b : Nat) (L : LV) (σ : CS), KG P σ → Gf P (f_X3_gather k b L σ) := by
  intro k
  induction k with
  | zero => intro b L σ _; exact Gf_no
  | succ k ih =>
    intro b L σ hb
    match b with
    | 0 =>
      refine Gf_eq (by rw [f_X3_gather]) ?_
      exact Gf_ite (ih _ _ _ hb) (Gf_ite (ih _ _ _ hb) (Gf_ite (ih _ _ _ hb) (Gf_ite (ih _ _ _ hb) (Gf_ite (ih _ _ _ hb) (Gf_ite (ih _ _ _ hb) (Gf_ite (ih _ _ _ hb) (ih _ _ _ hb)))))))
    | 1 =>
      refine Gf_eq (by rw [f_X3_gather]) ?_
      exact Gf_op (kg_y_X11_raw _ _ _ _ hb) (fun _ h682 => Gf_ox (kg_f_X3_push _ _ _ _ h682) (fun _ h683 => Gf_op (kg_y_X11_raw _ _ _ _ h683) (fun _ h684 => Gf_ox (kg_f_X3_push _ _ _ _ h684) (fun _ h685 => ih _ _ _ h685))))
    | 2 =>
      refine Gf_eq (by rw [f_X3_gather]) ?_
      exact Gf_op (kg_y_X3_pop _ _ _ _ hb) (fun _ h686 => Gf_ite (ih _ _ _ h686) (ih _ _ _ h686))
    | 3 =>
      refine Gf_eq (by rw [f_X3_gather]) ?_
      exact Gf_op (kg_y_X3_pop _ _ _ _ hb) (fun _ h687 => Gf_ox (kg_f_X3_gatherIntoTuple _ _ _ _ h687) (fun _ h688 => ih _ _ _ h688))
    | 4 =>
      refine Gf_eq (by rw [f_X3_gather]) ?_
      exact Gf_ite (ih _ _ _ hb) (ih _ _ _ hb)
    | 5 =>
      refine Gf_eq (by rw [f_X3_gather]) ?_
      exact Gf_ox (kg_f_X3_joinSet _ _ _ _ hb) (fun _ h689 => ih _ _ _ h689)
    | 6 =>
      refine Gf_eq (by rw [f_X3_gather]) ?_
      exact Gf_ox (kg_f_X3_joinTuple _ _ _ _ hb) (fun _ h690 => ih _ _ _ h690)
    | 7 =>
      refine Gf_eq (by rw [f_X3_gather]) ?_
      exact Gf_so hb
    | 8 =>
      refine Gf_eq (by rw [f_X3_gather]) ?_
      exact ih _ _ _ hb
    | 9 =>
      refine Gf_eq (by rw [f_X3_gather]) ?_
      exact Gf_ox (kg_f_X3_gatherIntoSet _ _ _ _ hb) (fun _ h691 => ih _ _ _ h691)
    | 10 =>
      refine Gf_eq (by rw [f_X3_gather]) ?_
      exact ih _ _ _ hb
    | 11 =>
      refine Gf_eq (by rw [f_X3_gather]) ?_
      exact Gf_ox (kg_f_X3_gathered _ _ _ _ hb) (fun _ h692 => ih _ _ _ h692)
    | b + 12 =>
      exact Gf_eq (by rw [f_X3_gather]) Gf_no
theorem kg_f_X3_takeFrom {P : Nat} : ∀ (k b : Nat) (L : LV) (σ : CS), KG P σ → Gf P (f_X3_takeFrom k b L σ) := by
  intro k
  induction k with
  | zero => intro b L σ _; exact Gf_no
  | succ k ih =>
    intro b L σ hb
    match b with
    | 0 =>
      refine Gf_eq (by rw [f_X3_takeFrom]) ?_
      exact Gf_ite (Gf_op (kg_y_X1_kind _ _ _ _ hb) (fun _ h693 => Gf_ite (Gf_ite (ih _ _ _ h693) (ih _ _ _ h693)) (ih _ _ _ h693))) (Gf_no)
    | 1 =>
      refine Gf_eq (by rw [f_X3_takeFrom]) ?_
      exact Gf_ite (ih _ _ _ hb) (Gf_ite (ih _ _ _ hb) (ih _ _ _ hb))
    | 2 =>
      refine Gf_eq (by rw [f_X3_takeFrom]) ?_
      exact Gf_op (kg_y_X1_length _ _ _ _ hb) (fun _ h694 => Gf_ite (Gf_ite (Gf_ox (kg_f_X3_push _ _ _ _ (KG_o h694 rfl)) (fun _ h695 => Gf_oP (fun _ => Gf_ite (Gf_so (KG_I (by decide) h695)) (Gf_no)))) (Gf_no)) (ih _ _ _ h694))
    | 3 =>
      refine Gf_eq (by rw [f_X3_takeFrom]) ?_
      exact Gf_op (kg_y_X3_fail _ _ _ _ hb) (fun _ h696 => Gf_so h696)
    | 4 =>
      refine Gf_eq (by rw [f_X3_takeFrom]) ?_
      exact Gf_ite (ih _ _ _ hb) (ih _ _ _ hb)
    | 5 =>
      refine Gf_eq (by rw [f_X3_takeFrom]) ?_
      exact ih _ _ _ hb
    | 6 =>
      refine Gf_eq (by rw [f_X3_takeFrom]) ?_
      exact Gf_op (kg_y_X1_taken _ _ _ _ hb) (fun _ h697 => Gf_ite (Gf_op (kg_y_X0_remainder _ _ _ _ (KG_I (by decide) (KG_o h697 rfl))) (fun _ h698 => Gf_ox (kg_f_X3_give _ _ _ _ h698) (fun _ h699 => Gf_so h699))) (Gf_no))
    | b + 7 =>
      exact Gf_eq (by rw [f_X3_takeFrom]) Gf_no
theorem kg_f_X3_partly {P : Nat} : ∀ (k b : Nat) (L : LV) (σ : CS), KG P σ → Gf P (f_X3_partly k b L σ) := by
  intro k
  induction k with
  | zero => intro b L σ _; exact Gf_no
  | succ k ih =>
    intro b L σ hb
    match b with
    | 0 =>
      refine Gf_eq (by rw [f_X3_partly]) ?_
      exact Gf_ite (ih _ _ _ hb) (Gf_ite (ih _ _ _ hb) (Gf_ite (ih _ _ _ hb) (Gf_ite (ih _ _ _ hb) (Gf_ite (ih _ _ _ hb) (ih _ _ _ hb)))))
    | 1 =>
      refine Gf_eq (by rw [f_X3_partly]) ?_
      exact Gf_ite (Gf_ite (Gf_op (kg_y_X0_part _ _ _ _ (KG_I (by decide) hb)) (fun _ h700 => Gf_op (kg_y_X3_replace _ _ _ _ h700) (fun _ h701 => ih _ _ _ h701))) (Gf_no)) (Gf_no)
    | 2 =>
      refine Gf_eq (by rw [f_X3_partly]) ?_
      exact Gf_ite (Gf_ite (Gf_ite (Gf_op (kg_y_X0_part _ _ _ _ (KG_I (by decide) hb)) (fun _ h702 => Gf_op (kg_y_X3_replace _ _ _ _ h702) (fun _ h703 => ih _ _ _ h703))) (Gf_no)) (Gf_no)) (Gf_no)
    | 3 =>
      refine Gf_eq (by rw [f_X3_partly]) ?_
      exact Gf_ite (Gf_op (kg_y_X1_member _ _ _ _ hb) (fun _ h704 => Gf_ox (kg_f_X3_push _ _ _ _ h704) (fun _ h705 => ih _ _ _ h705))) (Gf_no)
    | 4 =>
      refine Gf_eq (by rw [f_X3_partly]) ?_
      exact Gf_ite (Gf_op (kg_y_X1_kind _ _ _ _ hb) (fun _ h706 => Gf_ite (ih _ _ _ h706) (Gf_op (kg_y_X3_fail _ _ _ _ h706) (fun _ h707 => ih _ _ _ h707)))) (Gf_no)
    | 5 =>
      refine Gf_eq (by rw [f_X3_partly]) ?_
      exact Gf_ox (kg_f_X3_takeFrom _ _ _ _ hb) (fun _ h708 => ih _ _ _ h708)
    | 6 =>
      refine Gf_eq (by rw [f_X3_partly]) ?_
      exact Gf_so hb
    | b + 7 =>
      exact Gf_eq (by rw [f_X3_partly]) Gf_no
theorem kg_f_X3_fold {P : Nat} : ∀ (k b : Nat) (L : LV) (σ : CS), KG P σ → Gf P (f_X3_fold k b L σ) := by
  intro k
  induction k with
  | zero => intro b L σ _; exact Gf_no
  | succ k ih =>
    intro b L σ hb
    match b with
    | 0 =>
      refine Gf_eq (by rw [f_X3_fold]) ?_
      exact Gf_ite (Gf_op (kg_y_X1_kind _ _ _ _ hb) (fun _ h709 => Gf_ite (ih _ _ _ h709) (Gf_op (kg_y_X3_fail _ _ _ _ h709) (fun _ h710 => ih _ _ _ h710)))) (Gf_no)
    | 1 =>
      refine Gf_eq (by rw [f_X3_fold]) ?_
      exact Gf_op (kg_y_X1_length _ _ _ _ hb) (fun _ h711 => Gf_ite (Gf_op (kg_y_X3_replace _ _ _ _ h711) (fun _ h712 => ih _ _ _ (KG_I (by decide) h712))) (ih _ _ _ h711))
    | 2 =>
      refine Gf_eq (by rw [f_X3_fold]) ?_
      exact Gf_so hb
    | 3 =>
      refine Gf_eq (by rw [f_X3_fold]) ?_
      exact Gf_op (kg_y_X1_member _ _ _ _ hb) (fun _ h713 => Gf_ox (kg_f_X3_push _ _ _ _ h713) (fun _ h714 => Gf_op (kg_y_X11_raw _ _ _ _ h714) (fun _ h715 => Gf_ox (kg_f_X3_push _ _ _ _ h715) (fun _ h716 => ih _ _ _ h716))))
    | b + 4 =>
      exact Gf_eq (by rw [f_X3_fold]) Gf_no
theorem kg_f_X3_foldOn {P : Nat} : ∀ (k b : Nat) (L : LV) (σ : CS), KG P σ → Gf P (f_X3_foldOn k b L σ) := by
  intro k
  induction k with
  | zero => intro b L σ _; exact Gf_no
  | succ k ih =>
    intro b L σ hb
    match b with
    | 0 =>
      refine Gf_eq (by rw [f_X3_foldOn]) ?_
      exact Gf_ite (Gf_ox (kg_f_X3_fold _ _ _ _ hb) (fun _ h717 => Gf_so h717)) (ih _ _ _ hb)
    | 1 =>
      refine Gf_eq (by rw [f_X3_foldOn]) ?_
      exact Gf_ite (Gf_op (kg_y_X11_unraw _ _ _ _ hb) (fun _ h718 => Gf_ite (Gf_ite (Gf_op (kg_y_X1_length _ _ _ _ h718) (fun _ h719 => Gf_ite (ih _ _ _ h719) (Gf_op (kg_y_X3_replace _ _ _ _ (KG_I (by decide) h719)) (fun _ h720 => Gf_so h720)))) (Gf_no)) (Gf_no))) (Gf_no)
    | 2 =>
      refine Gf_eq (by rw [f_X3_foldOn]) ?_
      exact Gf_op (kg_y_X1_member _ _ _ _ hb) (fun _ h721 => Gf_ite (Gf_op (kg_y_X0_sum _ _ _ _ h721) (fun _ h722 => ih _ _ _ h722)) (ih _ _ _ h721))
    | 3 =>
      refine Gf_eq (by rw [f_X3_foldOn]) ?_
      exact Gf_ite (Gf_op (kg_y_X0_product _ _ _ _ hb) (fun _ h723 => ih _ _ _ h723)) (ih _ _ _ hb)
    | 4 =>
      refine Gf_eq (by rw [f_X3_foldOn]) ?_
      exact Gf_op (kg_y_X11_isError _ _ _ _ hb) (fun _ h724 => Gf_ite (ih _ _ _ h724) (Gf_op (kg_y_X3_fail _ _ _ _ h724) (fun _ h725 => Gf_so h725)))
    | 5 =>
      refine Gf_eq (by rw [f_X3_foldOn]) ?_
      exact Gf_ite (ih _ _ _ hb) (ih _ _ _ hb)
    | 6 =>
      refine Gf_eq (by rw [f_X3_foldOn]) ?_
      exact Gf_ite (Gf_op (kg_y_X11_raw _ _ _ _ (KG_o hb rfl)) (fun _ h726 => Gf_ite (ih _ _ _ (KG_o h726 rfl)) (Gf_no))) (Gf_no)
    | 7 =>
      refine Gf_eq (by rw [f_X3_foldOn]) ?_
      exact ih _ _ _ hb
    | 8 =>
      refine Gf_eq (by rw [f_X3_foldOn]) ?_
      exact Gf_op (kg_y_X0_larger _ _ _ _ hb) (fun _ h727 => ih _ _ _ h727)
    | 9 =>
      refine Gf_eq (by rw [f_X3_foldOn]) ?_
      exact Gf_ite (ih _ _ _ (KG_I (by decide) hb)) (Gf_op (kg_y_X1_size _ _ _ _ (KG_I (by decide) hb)) (fun _ h728 => Gf_op (kg_y_X3_spend _ _ _ _ h728) (fun _ h729 => ih _ _ _ h729)))
    | 10 =>
      refine Gf_eq (by rw [f_X3_foldOn]) ?_
      exact Gf_so hb
    | b + 11 =>
      exact Gf_eq (by rw [f_X3_foldOn]) Gf_no
theorem kg_f_X3_read {P : Nat} : ∀ (k b : Nat) (L : LV) (σ : CS), KG P σ → Gf P (f_X3_read k b L σ) := by
  intro k
  induction k with
  | zero => intro b L σ _; exact Gf_no
  | succ k ih =>
    intro b L σ hb
    match b with
    | 0 =>
      refine Gf_eq (by rw [f_X3_read]) ?_
      exact Gf_oP (fun _ => Gf_ite (Gf_oP (fun _ => Gf_ite (Gf_ite (Gf_ox (kg_f_X3_push _ _ _ _ (KG_I (by decide) hb)) (fun _ h730 => ih _ _ _ h730)) (Gf_no)) (Gf_no))) (Gf_no))
    | 1 =>
      refine Gf_eq (by rw [f_X3_read]) ?_
      exact Gf_ite (ih _ _ _ hb) (Gf_ite (Gf_ox (kg_f_X3_makeRoom _ _ _ _ hb) (fun _ h731 => Gf_oP (fun _ => Gf_ite (Gf_ite (Gf_ite (Gf_ite (Gf_op (kg_y_X0_part _ _ _ _ h731) (fun _ h732 => Gf_op (kg_y_X3_replace _ _ _ _ h732) (fun _ h733 => Gf_ite (ih _ _ _ h733) (ih _ _ _ h733)))) (Gf_no)) (Gf_no)) (Gf_no)) (Gf_no)))) (ih _ _ _ hb))
    | 2 =>
      refine Gf_eq (by rw [f_X3_read]) ?_
      exact Gf_so hb
    | 3 =>
      refine Gf_eq (by rw [f_X3_read]) ?_
      exact ih _ _ _ hb
    | 4 =>
      refine Gf_eq (by rw [f_X3_read]) ?_
      exact ih _ _ _ hb
    | b + 5 =>
      exact Gf_eq (by rw [f_X3_read]) Gf_no
theorem kg_f_X3_write {P : Nat} : ∀ (k b : Nat) (L : LV) (σ : CS), KG P σ → Gf P (f_X3_write k b L σ) := by
  intro k
  induction k with
  | zero => intro b L σ _; exact Gf_no
  | succ k ih =>
    intro b L σ hb
    match b with
    | 0 =>
      refine Gf_eq (by rw [f_X3_write]) ?_
      exact Gf_oP (fun _ => Gf_ite (Gf_oP (fun _ => Gf_ite (Gf_ite (Gf_ox (kg_f_X3_push _ _ _ _ (KG_I (by decide) hb)) (fun _ h734 => ih _ _ _ h734)) (Gf_no)) (Gf_no))) (Gf_no))
    | 1 =>
      refine Gf_eq (by rw [f_X3_write]) ?_
      exact Gf_ite (ih _ _ _ hb) (Gf_ite (Gf_ox (kg_f_X3_makeRoom _ _ _ _ hb) (fun _ h735 => Gf_oP (fun _ => Gf_ite (Gf_ox (kg_f_X3_push _ _ _ _ h735) (fun _ h736 => Gf_ite (Gf_ite (Gf_ite (Gf_op (kg_y_X0_part _ _ _ _ h736) (fun _ h737 => Gf_op (kg_y_X3_replace _ _ _ _ h737) (fun _ h738 => Gf_ite (ih _ _ _ h738) (ih _ _ _ h738)))) (Gf_no)) (Gf_no)) (Gf_no))) (Gf_no)))) (ih _ _ _ hb))
    | 2 =>
      refine Gf_eq (by rw [f_X3_write]) ?_
      exact Gf_ite (Gf_ox (kg_f_X3_push _ _ _ _ hb) (fun _ h739 => ih _ _ _ h739)) (Gf_no)
    | 3 =>
      refine Gf_eq (by rw [f_X3_write]) ?_
      exact ih _ _ _ hb
    | 4 =>
      refine Gf_eq (by rw [f_X3_write]) ?_
      exact ih _ _ _ hb
    | 5 =>
      refine Gf_eq (by rw [f_X3_write]) ?_
      exact Gf_ite (ih _ _ _ hb) (Gf_ite (Gf_ox (kg_f_X3_makeRoom _ _ _ _ hb) (fun _ h740 => Gf_oP (fun _ => Gf_ite (Gf_ite (ih _ _ _ h740) (ih _ _ _ h740)) (Gf_no)))) (ih _ _ _ hb))
    | 6 =>
      refine Gf_eq (by rw [f_X3_write]) ?_
      exact Gf_ite (Gf_ite (Gf_op (kg_y_X3_assign _ _ _ _ hb) (fun _ h741 => ih _ _ _ h741)) (Gf_no)) (ih _ _ _ hb)
    | 7 =>
      refine Gf_eq (by rw [f_X3_write]) ?_
      exact Gf_ite (ih _ _ _ hb) (ih _ _ _ hb)
    | 8 =>
      refine Gf_eq (by rw [f_X3_write]) ?_
      exact Gf_ite (Gf_ite (Gf_ite (Gf_ite (Gf_op (kg_y_X0_written _ _ _ _ (KG_I (by decide) hb)) (fun _ h742 => Gf_op (kg_y_X3_replace _ _ _ _ h742) (fun _ h743 => ih _ _ _ h743))) (Gf_no)) (Gf_no)) (Gf_no)) (Gf_no)
    | 9 =>
      refine Gf_eq (by rw [f_X3_write]) ?_
      exact Gf_so (KG_I (by decide) hb)
    | 10 =>
      refine Gf_eq (by rw [f_X3_write]) ?_
      exact ih _ _ _ hb
    | 11 =>
      refine Gf_eq (by rw [f_X3_write]) ?_
      exact ih _ _ _ hb
    | b + 12 =>
      exact Gf_eq (by rw [f_X3_write]) Gf_no
theorem kg_f_X6_printPlain {P : Nat} : ∀ (k b : Nat) (L : LV) (σ : CS), KG P σ → Gf P (f_X6_printPlain k b L σ) := by
  intro k
  induction k with
  | zero => intro b L σ _; exact Gf_no
  | succ k ih =>
    intro b L σ hb
    match b with
    | 0 =>
      refine Gf_eq (by rw [f_X6_printPlain]) ?_
      exact Gf_op (kg_y_X1_kind _ _ _ _ (KG_I (by decide) hb)) (fun _ h744 => Gf_ite (Gf_op (kg_y_X6_writeBytes _ _ _ _ h744) (fun _ h745 => ih _ _ _ h745)) (ih _ _ _ h744))
    | 1 =>
      refine Gf_eq (by rw [f_X6_printPlain]) ?_
      exact Gf_ox (kg_f_X6_write _ _ _ _ hb) (fun _ h746 => ih _ _ _ h746)
    | 2 =>
      refine Gf_eq (by rw [f_X6_printPlain]) ?_
      exact Gf_so hb
    | b + 3 =>
      exact Gf_eq (by rw [f_X6_printPlain]) Gf_no
theorem kg_f_X3_putOut {P : Nat} : ∀ (k b : Nat) (L : LV) (σ : CS), KG P σ → Gf P (f_X3_putOut k b L σ) := by
  intro k
  induction k with
  | zero => intro b L σ _; exact Gf_no
  | succ k ih =>
    intro b L σ hb
    match b with
    | 0 =>
      refine Gf_eq (by rw [f_X3_putOut]) ?_
      exact Gf_ite (ih _ _ _ hb) (Gf_ite (Gf_ite (Gf_ite (Gf_ad (ih _ _ _ (KG_o hb rfl))) (Gf_no)) (ih _ _ _ hb)) (Gf_no))
    | 1 =>
      refine Gf_eq (by rw [f_X3_putOut]) ?_
      exact Gf_op (kg_y_X3_countOut _ _ _ _ hb) (fun _ h747 => Gf_so h747)
    | 2 =>
      refine Gf_eq (by rw [f_X3_putOut]) ?_
      exact Gf_ite (Gf_ite (ih _ _ _ (KG_o hb rfl)) (Gf_no)) (Gf_no)
    | b + 3 =>
      exact Gf_eq (by rw [f_X3_putOut]) Gf_no
theorem kg_f_X3_print {P : Nat} : ∀ (k b : Nat) (L : LV) (σ : CS), KG P σ → Gf P (f_X3_print k b L σ) := by
  intro k
  induction k with
  | zero => intro b L σ _; exact Gf_no
  | succ k ih =>
    intro b L σ hb
    match b with
    | 0 =>
      refine Gf_eq (by rw [f_X3_print]) ?_
      exact ih _ _ _ hb
    | 1 =>
      refine Gf_eq (by rw [f_X3_print]) ?_
      exact Gf_ite (ih _ _ _ hb) (Gf_ite (ih _ _ _ hb) (Gf_ite (Gf_ite (Gf_ite (ih _ _ _ hb) (ih _ _ _ hb)) (Gf_no)) (Gf_no)))
    | 2 =>
      refine Gf_eq (by rw [f_X3_print]) ?_
      exact Gf_so (KG_I (by decide) hb)
    | 3 =>
      refine Gf_eq (by rw [f_X3_print]) ?_
      exact ih _ _ _ hb
    | 4 =>
      refine Gf_eq (by rw [f_X3_print]) ?_
      exact Gf_ite (ih _ _ _ hb) (Gf_ite (Gf_op (kg_y_X1_kind _ _ _ _ hb) (fun _ h748 => Gf_ite (Gf_ite (Gf_op (kg_y_X1_length _ _ _ _ h748) (fun _ h749 => Gf_op (kg_y_X3_countOut _ _ _ _ h749) (fun _ h750 => ih _ _ _ h750))) (Gf_no)) (ih _ _ _ h748))) (Gf_no))
    | 5 =>
      refine Gf_eq (by rw [f_X3_print]) ?_
      exact Gf_ite (ih _ _ _ hb) (Gf_ite (ih _ _ _ hb) (Gf_op (kg_y_X3_countOut _ _ _ _ hb) (fun _ h751 => ih _ _ _ h751)))
    | 6 =>
      refine Gf_eq (by rw [f_X3_print]) ?_
      exact ih _ _ _ hb
    | 7 =>
      refine Gf_eq (by rw [f_X3_print]) ?_
      exact Gf_ite (Gf_ox (kg_f_X6_printPlain _ _ _ _ hb) (fun _ h752 => Gf_ite (ih _ _ _ h752) (ih _ _ _ h752))) (Gf_no)
    | 8 =>
      refine Gf_eq (by rw [f_X3_print]) ?_
      exact ih _ _ _ hb
    | 9 =>
      refine Gf_eq (by rw [f_X3_print]) ?_
      exact Gf_op (kg_y_X6_put _ _ _ _ hb) (fun _ h753 => Gf_ox (kg_f_X3_putOut _ _ _ _ h753) (fun _ h754 => ih _ _ _ h754))
    | b + 10 =>
      exact Gf_eq (by rw [f_X3_print]) Gf_no
theorem kg_f_X3_execute {P : Nat} : ∀ (k b : Nat) (L : LV) (σ : CS), KG P σ → Gf P (f_X3_execute k b L σ) := by
  intro k
  induction k with
  | zero => intro b L σ _; exact Gf_no
  | succ k ih =>
    intro b L σ hb
    match b with
    | 0 =>
      refine Gf_eq (by rw [f_X3_execute]) ?_
      exact Gf_op (kg_y_X3_beginWork _ _ _ _ hb) (fun _ h755 => Gf_oP (fun _ => ih _ _ _ h755))
    | 1 =>
      refine Gf_eq (by rw [f_X3_execute]) ?_
      exact Gf_ite (ih _ _ _ hb) (Gf_ite (Gf_op (kg_y_X1_isTight _ _ _ _ hb) (fun _ h756 => Gf_ite (ih _ _ _ h756) (Gf_ox (kg_f_X3_makeRoom _ _ _ _ h756) (fun _ h757 => ih _ _ _ h757)))) (ih _ _ _ hb))
    | 2 =>
      refine Gf_eq (by rw [f_X3_execute]) ?_
      exact Gf_so hb
    | 3 =>
      refine Gf_eq (by rw [f_X3_execute]) ?_
      exact Gf_ite (ih _ _ _ hb) (Gf_ite (ih _ _ _ hb) (ih _ _ _ hb))
    | 4 =>
      refine Gf_eq (by rw [f_X3_execute]) ?_
      exact Gf_so hb
    | 5 =>
      refine Gf_eq (by rw [f_X3_execute]) ?_
      exact Gf_ite (Gf_ite (Gf_ite (ih _ _ _ (KG_I (by decide) hb)) (Gf_ite (ih _ _ _ (KG_I (by decide) hb)) (Gf_ite (ih _ _ _ (KG_I (by decide) hb)) (Gf_ite (ih _ _ _ (KG_I (by decide) hb)) (Gf_ite (ih _ _ _ (KG_I (by decide) hb)) (Gf_ite (ih _ _ _ (KG_I (by decide) hb)) (Gf_ite (ih _ _ _ (KG_I (by decide) hb)) (Gf_ite (ih _ _ _ (KG_I (by decide) hb)) (Gf_ite (ih _ _ _ (KG_I (by decide) hb)) (Gf_ite (ih _ _ _ (KG_I (by decide) hb)) (Gf_ite (ih _ _ _ (KG_I (by decide) hb)) (Gf_ite (ih _ _ _ (KG_I (by decide) hb)) (Gf_ite (ih _ _ _ (KG_I (by decide) hb)) (ih _ _ _ (KG_I (by decide) hb))))))))))))))) (Gf_no)) (Gf_no)
    | 6 =>
      refine Gf_eq (by rw [f_X3_execute]) ?_
      exact Gf_ox (kg_f_X3_flow _ _ _ _ hb) (fun _ h758 => ih _ _ _ h758)
    | 7 =>
      refine Gf_eq (by rw [f_X3_execute]) ?_
      exact Gf_ox (kg_f_X3_callsAndPoints _ _ _ _ hb) (fun _ h759 => ih _ _ _ h759)
    | 8 =>
      refine Gf_eq (by rw [f_X3_execute]) ?_
      exact Gf_ox (kg_f_X3_data _ _ _ _ hb) (fun _ h760 => ih _ _ _ h760)
    | 9 =>
      refine Gf_eq (by rw [f_X3_execute]) ?_
      exact Gf_ox (kg_f_X3_makeValue _ _ _ _ hb) (fun _ h761 => ih _ _ _ h761)
    | 10 =>
      refine Gf_eq (by rw [f_X3_execute]) ?_
      exact Gf_ox (kg_f_X3_iterate _ _ _ _ hb) (fun _ h762 => ih _ _ _ h762)
    | 11 =>
      refine Gf_eq (by rw [f_X3_execute]) ?_
      exact Gf_ox (kg_f_X3_gather _ _ _ _ hb) (fun _ h763 => ih _ _ _ h763)
    | 12 =>
      refine Gf_eq (by rw [f_X3_execute]) ?_
      exact Gf_ox (kg_f_X3_partly _ _ _ _ hb) (fun _ h764 => ih _ _ _ h764)
    | 13 =>
      refine Gf_eq (by rw [f_X3_execute]) ?_
      exact Gf_ox (kg_f_X3_foldOn _ _ _ _ hb) (fun _ h765 => ih _ _ _ h765)
    | 14 =>
      refine Gf_eq (by rw [f_X3_execute]) ?_
      exact Gf_ite (Gf_ite (Gf_op (kg_y_X0_binary _ _ _ _ (KG_I (by decide) hb)) (fun _ h766 => Gf_op (kg_y_X3_replace _ _ _ _ h766) (fun _ h767 => ih _ _ _ h767))) (Gf_no)) (Gf_no)
    | 15 =>
      refine Gf_eq (by rw [f_X3_execute]) ?_
      exact Gf_ox (kg_f_X3_print _ _ _ _ hb) (fun _ h768 => ih _ _ _ h768)
    | 16 =>
      refine Gf_eq (by rw [f_X3_execute]) ?_
      exact Gf_ite (Gf_ox (kg_f_X0_unary _ _ _ _ hb) (fun _ h769 => Gf_op (kg_y_X3_replace _ _ _ _ h769) (fun _ h770 => ih _ _ _ h770))) (Gf_no)
    | 17 =>
      refine Gf_eq (by rw [f_X3_execute]) ?_
      exact Gf_ite (ih _ _ _ hb) (ih _ _ _ hb)
    | 18 =>
      refine Gf_eq (by rw [f_X3_execute]) ?_
      exact Gf_ite (ih _ _ _ hb) (ih _ _ _ hb)
    | 19 =>
      refine Gf_eq (by rw [f_X3_execute]) ?_
      exact ih _ _ _ hb
    | 20 =>
      refine Gf_eq (by rw [f_X3_execute]) ?_
      exact ih _ _ _ hb
    | 21 =>
      refine Gf_eq (by rw [f_X3_execute]) ?_
      exact Gf_ox (kg_f_X3_read _ _ _ _ hb) (fun _ h771 => ih _ _ _ h771)
    | 22 =>
      refine Gf_eq (by rw [f_X3_execute]) ?_
      exact ih _ _ _ hb
    | 23 =>
      refine Gf_eq (by rw [f_X3_execute]) ?_
      exact Gf_ite (ih _ _ _ hb) (ih _ _ _ hb)
    | 24 =>
      refine Gf_eq (by rw [f_X3_execute]) ?_
      exact ih _ _ _ hb
    | 25 =>
      refine Gf_eq (by rw [f_X3_execute]) ?_
      exact Gf_ox (kg_f_X3_write _ _ _ _ hb) (fun _ h772 => ih _ _ _ h772)
    | b + 26 =>
      exact Gf_eq (by rw [f_X3_execute]) Gf_no
theorem kg_y_J7_fill_53178__a23 {P : Nat} : ∀ (k b : Nat) (L : LV) (σ : CS), KG P σ → Gy P (y_J7_fill_53178__a23 k b L σ) := by
  intro k
  induction k with
  | zero => intro b L σ _; exact Gy_no
  | succ k ih =>
    intro b L σ hb
    match b with
    | 0 =>
      refine Gy_eq (by rw [y_J7_fill_53178__a23]) ?_
      exact ih _ _ _ hb
    | 1 =>
      refine Gy_eq (by rw [y_J7_fill_53178__a23]) ?_
      exact Gy_ite (ih _ _ _ hb) (Gy_ite (ih _ _ _ (KG_o hb rfl)) (Gy_no))
    | 2 =>
      refine Gy_eq (by rw [y_J7_fill_53178__a23]) ?_
      exact Gy_so hb
    | b + 3 =>
      exact Gy_eq (by rw [y_J7_fill_53178__a23]) Gy_no
