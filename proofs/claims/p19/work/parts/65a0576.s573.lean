/-! A round leaves the fault's number as it was (reference; made by kr5.py). -/
def Kr5 (c : Int32) (x : Option (Int32 × MS)) : Prop := ∀ r, x = some r → r.2.1 11 = c
section KRS
variable {c : Int32}
theorem Kr5_no : Kr5 c none := fun _ h => by cases h
theorem Kr5_so {r : Int32 × MS} (h : r.2.1 11 = c) : Kr5 c (some r) := fun _ e => by cases e; exact h
theorem Kr5_eq {a a' : Option (Int32 × MS)} (h1 : a = a') (h : Kr5 c a') : Kr5 c a := by rw [h1]; exact h
theorem Kr5_oa {x : Option (Int32 × MS)} {f : Int32 × MS → Option (Int32 × MS)} (h2 : ∀ r, Kr5 c (f r)) : Kr5 c (ob x f) := by
  intro r hr
  cases x with
  | none => cases hr
  | some s => exact h2 s r hr
theorem Kr5_ob {x : Option (Int32 × MS)} {f : Int32 × MS → Option (Int32 × MS)} (h1 : Kr5 c x) (h2 : ∀ r, r.2.1 11 = c → Kr5 c (f r)) : Kr5 c (ob x f) := by
  intro r hr
  cases x with
  | none => cases hr
  | some s => exact h2 s (h1 s rfl) r hr
theorem Kr5_ite {p : Prop} {_ : Decidable p} {a b : Option (Int32 × MS)} (h1 : Kr5 c a) (h2 : Kr5 c b) : Kr5 c (if p then a else b) := by
  by_cases h : p
  · rw [if_pos h]; exact h1
  · rw [if_neg h]; exact h2
/-- all as it is -/
def ksw (σ : MS) : KsT := (σ.1 11, σ.1 44, σ.1 31, σ.1 111, σ.1 115, σ.2.2 21 0, σ.2.2 53)
theorem ks_rf (σ : MS) : ks (ksw σ) σ := ⟨rfl, rfl, rfl, rfl, rfl, rfl, rfl⟩
theorem kr_good {k b : Nat} {L : Nat → Int32} {σ : MS} (h : σ.1 11 = c) : Kr5 c (x_good k b L σ) := fun r e => (ks_good k b L σ (ks_rf σ) r e).1.trans h
theorem kr_round : ∀ (k b : Nat) (L : Nat → Int32) (σ : MS), (b ≤ 6 ∨ b = 31 → σ.1 11 = c) → (7 ≤ b → L 5 = c) → Kr5 c (x_round k b L σ) := by
  intro k
  induction k with
  | zero => intro b L σ _ _; exact Kr5_no
  | succ k ih =>
    intro b L σ h0 h5
    match b with
    | 0 =>
      refine Kr5_eq (by rw [x_round]) ?_
      exact Kr5_ite (ih _ _ _ (fun _ => (h0 (Or.inl (by decide)))) (fun z => absurd z (by omega))) (ih _ _ _ (fun _ => (h0 (Or.inl (by decide)))) (fun z => absurd z (by omega)))
    | 1 =>
      refine Kr5_eq (by rw [x_round]) ?_
      exact ih _ _ _ (fun _ => (h0 (Or.inl (by decide)))) (fun z => absurd z (by omega))
    | 2 =>
      refine Kr5_eq (by rw [x_round]) ?_
      exact Kr5_ob (kr_good (h0 (Or.inl (by decide)))) (fun _ h11 => Kr5_ite (Kr5_so h11) (ih _ _ _ (fun _ => h11) (fun z => absurd z (by omega))))
    | 3 =>
      refine Kr5_eq (by rw [x_round]) ?_
      exact ih _ _ _ (fun _ => (h0 (Or.inl (by decide)))) (fun z => absurd z (by omega))
    | 4 =>
      refine Kr5_eq (by rw [x_round]) ?_
      exact Kr5_ite (ih _ _ _ (fun _ => (h0 (Or.inl (by decide)))) (fun z => absurd z (by omega))) (Kr5_ite (Kr5_ite (ih _ _ _ (fun _ => (h0 (Or.inl (by decide)))) (fun z => absurd z (by omega))) (Kr5_no)) (Kr5_no))
    | 5 =>
      refine Kr5_eq (by rw [x_round]) ?_
      exact ih _ _ _ (fun _ => (h0 (Or.inl (by decide)))) (fun z => absurd z (by omega))
    | 6 =>
      refine Kr5_eq (by rw [x_round]) ?_
      exact ih _ _ _ (fun z => absurd z (by omega)) (fun _ => (h0 (Or.inl (by decide))))
    | 7 =>
      refine Kr5_eq (by rw [x_round]) ?_
      exact Kr5_ite (ih _ _ _ (fun z => absurd z (by omega)) (fun _ => (h5 (by decide)))) (Kr5_ite (Kr5_oa (fun _ => Kr5_oa (fun _ => Kr5_oa (fun _ => ih _ _ _ (fun z => absurd z (by omega)) (fun _ => (h5 (by decide))))))) (Kr5_no))
    | 8 =>
      refine Kr5_eq (by rw [x_round]) ?_
      exact ih _ _ _ (fun z => absurd z (by omega)) (fun _ => (h5 (by decide)))
    | 9 =>
      refine Kr5_eq (by rw [x_round]) ?_
      exact Kr5_ite (ih _ _ _ (fun z => absurd z (by omega)) (fun _ => (h5 (by decide)))) (ih _ _ _ (fun z => absurd z (by omega)) (fun _ => (h5 (by decide))))
    | 10 =>
      refine Kr5_eq (by rw [x_round]) ?_
      exact Kr5_oa (fun _ => ih _ _ _ (fun z => absurd z (by omega)) (fun _ => (h5 (by decide))))
    | 11 =>
      refine Kr5_eq (by rw [x_round]) ?_
      exact ih _ _ _ (fun z => absurd z (by omega)) (fun _ => (h5 (by decide)))
    | 12 =>
      refine Kr5_eq (by rw [x_round]) ?_
      exact Kr5_ite (ih _ _ _ (fun z => absurd z (by omega)) (fun _ => (h5 (by decide)))) (Kr5_no)
    | 13 =>
      refine Kr5_eq (by rw [x_round]) ?_
      exact Kr5_ite (Kr5_oa (fun _ => Kr5_ite (ih _ _ _ (fun z => absurd z (by omega)) (fun _ => (h5 (by decide)))) (ih _ _ _ (fun z => absurd z (by omega)) (fun _ => (h5 (by decide)))))) (Kr5_no)
    | 14 =>
      refine Kr5_eq (by rw [x_round]) ?_
      exact ih _ _ _ (fun z => absurd z (by omega)) (fun _ => (h5 (by decide)))
    | 15 =>
      refine Kr5_eq (by rw [x_round]) ?_
      exact Kr5_oa (fun _ => Kr5_ite (Kr5_oa (fun _ => Kr5_ite (ih _ _ _ (fun z => absurd z (by omega)) (fun _ => (h5 (by decide)))) (ih _ _ _ (fun z => absurd z (by omega)) (fun _ => (h5 (by decide)))))) (ih _ _ _ (fun z => absurd z (by omega)) (fun _ => (h5 (by decide)))))
    | 16 =>
      refine Kr5_eq (by rw [x_round]) ?_
      exact ih _ _ _ (fun z => absurd z (by omega)) (fun _ => (h5 (by decide)))
    | 17 =>
      refine Kr5_eq (by rw [x_round]) ?_
      exact ih _ _ _ (fun z => absurd z (by omega)) (fun _ => (h5 (by decide)))
    | 18 =>
      refine Kr5_eq (by rw [x_round]) ?_
      exact Kr5_ite (Kr5_oa (fun _ => ih _ _ _ (fun z => absurd z (by omega)) (fun _ => (h5 (by decide))))) (ih _ _ _ (fun z => absurd z (by omega)) (fun _ => (h5 (by decide))))
    | 19 =>
      refine Kr5_eq (by rw [x_round]) ?_
      exact Kr5_ite (ih _ _ _ (fun z => absurd z (by omega)) (fun _ => (h5 (by decide)))) (Kr5_oa (fun _ => ih _ _ _ (fun z => absurd z (by omega)) (fun _ => (h5 (by decide)))))
    | 20 =>
      refine Kr5_eq (by rw [x_round]) ?_
      exact ih _ _ _ (fun z => absurd z (by omega)) (fun _ => (h5 (by decide)))
    | 21 =>
      refine Kr5_eq (by rw [x_round]) ?_
      exact Kr5_ite (Kr5_oa (fun _ => ih _ _ _ (fun z => absurd z (by omega)) (fun _ => (h5 (by decide))))) (ih _ _ _ (fun z => absurd z (by omega)) (fun _ => (h5 (by decide))))
    | 22 =>
      refine Kr5_eq (by rw [x_round]) ?_
      exact Kr5_ite (ih _ _ _ (fun z => absurd z (by omega)) (fun _ => (h5 (by decide)))) (Kr5_oa (fun _ => ih _ _ _ (fun z => absurd z (by omega)) (fun _ => (h5 (by decide)))))
    | 23 =>
      refine Kr5_eq (by rw [x_round]) ?_
      exact ih _ _ _ (fun z => absurd z (by omega)) (fun _ => (h5 (by decide)))
    | 24 =>
      refine Kr5_eq (by rw [x_round]) ?_
      exact Kr5_ite (ih _ _ _ (fun z => absurd z (by omega)) (fun _ => (h5 (by decide)))) (Kr5_no)
    | 25 =>
      refine Kr5_eq (by rw [x_round]) ?_
      exact Kr5_ite (ih _ _ _ (fun z => absurd z (by omega)) (fun _ => (h5 (by decide)))) (Kr5_no)
    | 26 =>
      refine Kr5_eq (by rw [x_round]) ?_
      exact Kr5_ite (ih _ _ _ (fun z => absurd z (by omega)) (fun _ => (h5 (by decide)))) (Kr5_no)
    | 27 =>
      refine Kr5_eq (by rw [x_round]) ?_
      exact Kr5_ite (ih _ _ _ (fun z => absurd z (by omega)) (fun _ => (h5 (by decide)))) (ih _ _ _ (fun z => absurd z (by omega)) (fun _ => (h5 (by decide))))
    | 28 =>
      refine Kr5_eq (by rw [x_round]) ?_
      exact ih _ _ _ (fun z => absurd z (by omega)) (fun _ => (h5 (by decide)))
    | 29 =>
      refine Kr5_eq (by rw [x_round]) ?_
      exact ih _ _ _ (fun z => absurd z (by omega)) (fun _ => (h5 (by decide)))
    | 30 =>
      refine Kr5_eq (by rw [x_round]) ?_
      exact Kr5_oa (fun _ => ih _ _ _ (fun _ => (h5 (by decide))) (fun _ => (h5 (by decide))))
    | 31 =>
      refine Kr5_eq (by rw [x_round]) ?_
      exact Kr5_so (h0 (Or.inr rfl))
    | b + 32 => exact Kr5_eq (by rw [x_round]) Kr5_no
end KRS
theorem Tm_kr {c : Int32} {f : Nat → Option (Int32 × MS)} {P : Int32 × MS → Prop} (t : Tm f P) (h : ∀ k, Kr5 c (f k)) : Tm f (fun r => P r ∧ r.2.1 11 = c) := by
  obtain ⟨r, k0, h1, h2⟩ := t
  exact ⟨r, k0, h1, h2, h k0 r (h1 k0 (Nat.le_refl _))⟩
