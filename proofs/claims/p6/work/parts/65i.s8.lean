/-! A token of the reference. -/
abbrev isN (c : Int32) : Prop := isL c ∨ isD c ∨ c = 95
def nameE (T : Nat → Int32) (n : Nat) : Nat → Nat → Nat
  | 0, p => p
  | f + 1, p => if isN (rB T n p) then nameE T n f (p + 1) else p
def digE (T : Nat → Int32) (n : Nat) : Nat → Nat → Nat
  | 0, p => p
  | f + 1, p => if isD (rB T n p) then digE T n f (p + 1) else p
def strE (T : Nat → Int32) (n : Nat) : Nat → Nat → Nat
  | 0, p => p
  | f + 1, p => if p < n ∧ ¬ T p = 34 ∧ ¬ T p ≤ 31 then strE T n f (p + 1) else p
theorem rB_out {T : Nat → Int32} {n p : Nat} (h : n ≤ p) : rB T n p = 0 := if_neg (by omega)
theorem rB_in {T : Nat → Int32} {n p : Nat} (h : p < n) : rB T n p = T p := if_pos h
theorem isN_lt {T : Nat → Int32} {n p : Nat} (h : isN (rB T n p)) : p < n := by
  by_cases c : p < n
  · exact c
  · rw [rB_out (by omega)] at h; exact absurd h (by decide)
theorem isD_lt {T : Nat → Int32} {n p : Nat} (h : isD (rB T n p)) : p < n := isN_lt (Or.inr (Or.inl h))
theorem nameE_step {T : Nat → Int32} {n f p : Nat} : nameE T n (f + 1) p = if isN (rB T n p) then nameE T n f (p + 1) else p := rfl
theorem digE_step {T : Nat → Int32} {n f p : Nat} : digE T n (f + 1) p = if isD (rB T n p) then digE T n f (p + 1) else p := rfl
theorem strE_step {T : Nat → Int32} {n f p : Nat} : strE T n (f + 1) p = if p < n ∧ ¬ T p = 34 ∧ ¬ T p ≤ 31 then strE T n f (p + 1) else p := rfl
theorem nameE_ge (T : Nat → Int32) (n : Nat) : ∀ f p : Nat, p ≤ nameE T n f p
  | 0, p => Nat.le_refl _
  | f + 1, p => by
    rw [nameE_step]
    split
    · have := nameE_ge T n f (p + 1); omega
    · exact Nat.le_refl _
theorem nameE_le (T : Nat → Int32) (n : Nat) : ∀ f p : Nat, p ≤ n → nameE T n f p ≤ n
  | 0, p, h => h
  | f + 1, p, h => by
    rw [nameE_step]
    split
    · next c => have := isN_lt c; exact nameE_le T n f (p + 1) (by omega)
    · exact h
theorem nameE_all (T : Nat → Int32) (n : Nat) : ∀ f p i : Nat, p ≤ i → i < nameE T n f p → isN (T i)
  | 0, p, i, h1, h2 => absurd h2 (by show ¬ i < p; omega)
  | f + 1, p, i, h1, h2 => by
    rw [nameE_step] at h2
    split at h2
    · next c =>
      by_cases e : i = p
      · rw [e]; rw [rB_in (isN_lt c)] at c; exact c
      · exact nameE_all T n f (p + 1) i (by omega) h2
    · omega
theorem digE_ge (T : Nat → Int32) (n : Nat) : ∀ f p : Nat, p ≤ digE T n f p
  | 0, p => Nat.le_refl _
  | f + 1, p => by
    rw [digE_step]
    split
    · have := digE_ge T n f (p + 1); omega
    · exact Nat.le_refl _
theorem digE_le (T : Nat → Int32) (n : Nat) : ∀ f p : Nat, p ≤ n → digE T n f p ≤ n
  | 0, p, h => h
  | f + 1, p, h => by
    rw [digE_step]
    split
    · next c => have := isD_lt c; exact digE_le T n f (p + 1) (by omega)
    · exact h
theorem strE_ge (T : Nat → Int32) (n : Nat) : ∀ f p : Nat, p ≤ strE T n f p
  | 0, p => Nat.le_refl _
  | f + 1, p => by
    rw [strE_step]
    split
    · have := strE_ge T n f (p + 1); omega
    · exact Nat.le_refl _
theorem strE_le (T : Nat → Int32) (n : Nat) : ∀ f p : Nat, p ≤ n → strE T n f p ≤ n
  | 0, p, h => h
  | f + 1, p, h => by
    rw [strE_step]
    split
    · next c => exact strE_le T n f (p + 1) (by omega)
    · exact h
section TAKE
variable {σ : MS} {n : Nat}
theorem name_loop (hn : mN σ n) (L : Nat → Int32) (Q : Int32 × MS → Prop) : ∀ (f p : Nat), n - p < f → p ≤ n → Tm (fun k => x_take k 5 L (mAt σ (nameE (σ.2.2 3) n f p))) Q → Tm (fun k => x_take k 3 L (mAt σ p)) Q := by
  intro f
  induction f with
  | zero => intro p h; omega
  | succ f ih =>
    intro p hf hp t
    have hN := hn.2
    rw [nameE_step] at t
    have on : isN (rB (σ.2.2 3) n p) → Tm (fun k => x_take k 4 L (mAt σ p)) Q := fun h => by
      rw [if_pos h] at t
      have := isN_lt h
      refine Tm_suc (fun k => by rw [x_take]) ?_
      rw [mAt_up]
      exact ih (p + 1) (by omega) (by omega) t
    refine Tm_suc (fun k => by rw [x_take]) ?_
    rw [mAt_at]
    refine Tm_ob (s_byteAt (mAt_mN hn) (p := p) (by omega) upd_same) (fun r1 h1 => ?_)
    subst h1
    refine Tm_ob (s_isLetter _ _) (fun r2 h2 => ?_)
    obtain ⟨e2, i2⟩ := h2
    rw [upd_same] at i2
    rw [e2]
    refine Tm_ite (fun c => ?_) (fun c => on (Or.inl (i2.mp c)))
    show Tm (fun k => ob (x_byteAt k 0 (upd (fun _ => 0) 1 ((mAt σ p).1 5)) (mAt σ p)) _) _
    rw [mAt_at]
    refine Tm_ob (s_byteAt (mAt_mN hn) (p := p) (by omega) upd_same) (fun r4 h4 => ?_)
    subst h4
    refine Tm_ob (s_isDigit _ _) (fun r5 h5 => ?_)
    obtain ⟨e5, i5⟩ := h5
    rw [upd_same] at i5
    rw [e5]
    refine Tm_ite (fun c5 => ?_) (fun c5 => on (Or.inr (Or.inl (i5.mp c5))))
    show Tm (fun k => ob (x_byteAt k 0 (upd (fun _ => 0) 1 ((mAt σ p).1 5)) (mAt σ p)) _) _
    rw [mAt_at]
    refine Tm_ob (s_byteAt (mAt_mN hn) (p := p) (by omega) upd_same) (fun r7 h7 => ?_)
    subst h7
    refine Tm_ite (fun c7 => on (Or.inr (Or.inr c7))) (fun c7 => ?_)
    rw [if_neg (fun h => h.elim (fun h => i2.mpr h c) (fun h => h.elim (fun h => i5.mpr h c5) c7))] at t
    exact t
theorem dig_loop (hn : mN σ n) (L : Nat → Int32) (Q : Int32 × MS → Prop) : ∀ (f p : Nat), n - p < f → p ≤ n → Tm (fun k => x_take k 12 L (mAt σ (digE (σ.2.2 3) n f p))) Q → Tm (fun k => x_take k 11 L (mAt σ p)) Q := by
  intro f
  induction f with
  | zero => intro p h; omega
  | succ f ih =>
    intro p hf hp t
    have hN := hn.2
    rw [digE_step] at t
    refine Tm_suc (fun k => by rw [x_take]) ?_
    rw [mAt_at]
    refine Tm_ob (s_byteAt (mAt_mN hn) (p := p) (by omega) upd_same) (fun r1 h1 => ?_)
    subst h1
    refine Tm_ob (s_isDigit _ _) (fun r2 h2 => ?_)
    obtain ⟨e2, i2⟩ := h2
    rw [upd_same] at i2
    have i2 : ¬ r2.1 = 0 ↔ isD (rB (σ.2.2 3) n p) := i2
    rw [e2]
    refine Tm_ite (fun c => ?_) (fun c => ?_)
    · rw [if_neg (fun h => i2.mpr h c)] at t; exact t
    · have hd := i2.mp c
      have := isD_lt hd
      rw [if_pos hd] at t
      show Tm (fun k => x_take k 11 L (upd (mAt σ p).1 5 ((mAt σ p).1 5 + 1), (mAt σ p).2.1, (mAt σ p).2.2)) Q
      rw [mAt_up]
      exact ih (p + 1) (by omega) (by omega) t
theorem str_loop (hn : mN σ n) (L : Nat → Int32) (Q : Int32 × MS → Prop) : ∀ (f p : Nat), n - p < f → p ≤ n → Tm (fun k => x_take k 17 L (mAt σ (strE (σ.2.2 3) n f p))) Q → Tm (fun k => x_take k 16 L (mAt σ p)) Q := by
  intro f
  induction f with
  | zero => intro p h; omega
  | succ f ih =>
    intro p hf hp t
    have hN := hn.2
    have h4 : (mAt σ p).1 4 = nI n := (mAt_mN hn).1
    rw [strE_step] at t
    refine Tm_suc (fun k => by rw [x_take]) ?_
    rw [h4, mAt_at]
    refine Tm_ite (fun c => ?_) (fun c => ?_)
    · rw [n_le (by omega) (by omega)] at c
      rw [if_neg (by omega)] at t; exact t
    · rw [n_le (by omega) (by omega)] at c
      refine Tm_chk (n_in (by omega) (by omega)) ?_
      rw [n_cl (p := p) (by omega)]
      refine Tm_ite (fun c2 => ?_) (fun c2 => ?_)
      · rw [if_neg (fun h => h.2.1 c2)] at t; exact t
      · refine Tm_chk (by rw [i_lt, n_int (p := p) (by omega), i_c0]; omega) ?_
        refine Tm_ite (fun c3 => ?_) (fun c3 => ?_)
        · rw [if_neg (fun h => h.2.2 c3)] at t; exact t
        · rw [if_pos ⟨by omega, c2, c3⟩] at t
          rw [n_add1]
          have e2 : (upd (mAt σ p).1 5 (nI (p + 1)), (mAt σ p).2.1, (mAt σ p).2.2) = mAt σ (p + 1) := by
            show (upd (upd σ.1 5 (nI p)) 5 (nI (p + 1)), σ.2.1, σ.2.2) = _
            rw [upd_upd]; rfl
          rw [e2]
          exact ih (p + 1) (by omega) (by omega) t
end TAKE
