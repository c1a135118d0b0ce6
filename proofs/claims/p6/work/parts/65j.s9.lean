/-- the sign that c and d begin with; 0: none -/
def signF (c d : Int32) : Int32 := if c = 35 then 23 else if c = 40 then 6 else if c = 41 then 7 else if c = 42 then (if d = 42 then 5 else 4) else if c = 43 then 2 else if c = 44 then 12 else if c = 45 then 3 else if c = 46 then (if d = 46 then 16 else 0) else if c = 47 then (if d = 61 then 18 else 24) else if c = 58 then (if d = 61 then 1 else 14) else if c = 59 then 13 else if c = 60 then (if d = 61 then 20 else 19) else if c = 61 then 17 else if c = 62 then (if d = 61 then 22 else 21) else if c = 91 then 10 else if c = 93 then 11 else if c = 123 then 8 else if c = 124 then 15 else if c = 125 then 9 else 0
theorem s_sign (L : Nat → Int32) (σ : MS) : Tm (fun k => x_sign k 0 L σ) (fun r => r = (signF (L 0) (L 1), σ)) := by
  unfold signF
  refine Tm_suc (fun k => by rw [x_sign]) ?_
  refine Tm_ite (fun h => ?_) (fun h0 => ?_)
  · rw [if_pos h]
    refine Tm_suc (fun k => by rw [x_sign]) ?_
    exact Tm_some rfl
  refine Tm_ite (fun h => ?_) (fun h1 => ?_)
  · rw [if_neg h0, if_pos h]
    refine Tm_suc (fun k => by rw [x_sign]) ?_
    exact Tm_some rfl
  refine Tm_ite (fun h => ?_) (fun h2 => ?_)
  · rw [if_neg h0, if_neg h1, if_pos h]
    refine Tm_suc (fun k => by rw [x_sign]) ?_
    exact Tm_some rfl
  refine Tm_ite (fun h => ?_) (fun h3 => ?_)
  · rw [if_neg h0, if_neg h1, if_neg h2, if_pos h]
    refine Tm_suc (fun k => by rw [x_sign]) ?_
    refine Tm_ite (fun g => ?_) (fun g => ?_)
    · rw [if_pos g]
      refine Tm_suc (fun k => by rw [x_sign]) ?_
      exact Tm_some (by rw [upd_same])
    · rw [if_neg g]
      refine Tm_suc (fun k => by rw [x_sign]) ?_
      refine Tm_suc (fun k => by rw [x_sign]) ?_
      exact Tm_some (by rw [upd_same])
  refine Tm_ite (fun h => ?_) (fun h4 => ?_)
  · rw [if_neg h0, if_neg h1, if_neg h2, if_neg h3, if_pos h]
    refine Tm_suc (fun k => by rw [x_sign]) ?_
    exact Tm_some rfl
  refine Tm_ite (fun h => ?_) (fun h5 => ?_)
  · rw [if_neg h0, if_neg h1, if_neg h2, if_neg h3, if_neg h4, if_pos h]
    refine Tm_suc (fun k => by rw [x_sign]) ?_
    exact Tm_some rfl
  refine Tm_ite (fun h => ?_) (fun h6 => ?_)
  · rw [if_neg h0, if_neg h1, if_neg h2, if_neg h3, if_neg h4, if_neg h5, if_pos h]
    refine Tm_suc (fun k => by rw [x_sign]) ?_
    exact Tm_some rfl
  refine Tm_ite (fun h => ?_) (fun h7 => ?_)
  · rw [if_neg h0, if_neg h1, if_neg h2, if_neg h3, if_neg h4, if_neg h5, if_neg h6, if_pos h]
    refine Tm_suc (fun k => by rw [x_sign]) ?_
    refine Tm_ite (fun g => ?_) (fun g => ?_)
    · rw [if_pos g]
      refine Tm_suc (fun k => by rw [x_sign]) ?_
      exact Tm_some (by rw [upd_same])
    · rw [if_neg g]
      refine Tm_suc (fun k => by rw [x_sign]) ?_
      refine Tm_suc (fun k => by rw [x_sign]) ?_
      exact Tm_some (by rw [upd_same])
  refine Tm_ite (fun h => ?_) (fun h8 => ?_)
  · rw [if_neg h0, if_neg h1, if_neg h2, if_neg h3, if_neg h4, if_neg h5, if_neg h6, if_neg h7, if_pos h]
    refine Tm_suc (fun k => by rw [x_sign]) ?_
    refine Tm_ite (fun g => ?_) (fun g => ?_)
    · rw [if_pos g]
      refine Tm_suc (fun k => by rw [x_sign]) ?_
      exact Tm_some (by rw [upd_same])
    · rw [if_neg g]
      refine Tm_suc (fun k => by rw [x_sign]) ?_
      refine Tm_suc (fun k => by rw [x_sign]) ?_
      exact Tm_some (by rw [upd_same])
  refine Tm_ite (fun h => ?_) (fun h9 => ?_)
  · rw [if_neg h0, if_neg h1, if_neg h2, if_neg h3, if_neg h4, if_neg h5, if_neg h6, if_neg h7, if_neg h8, if_pos h]
    refine Tm_suc (fun k => by rw [x_sign]) ?_
    refine Tm_ite (fun g => ?_) (fun g => ?_)
    · rw [if_pos g]
      refine Tm_suc (fun k => by rw [x_sign]) ?_
      exact Tm_some (by rw [upd_same])
    · rw [if_neg g]
      refine Tm_suc (fun k => by rw [x_sign]) ?_
      refine Tm_suc (fun k => by rw [x_sign]) ?_
      exact Tm_some (by rw [upd_same])
  refine Tm_ite (fun h => ?_) (fun h10 => ?_)
  · rw [if_neg h0, if_neg h1, if_neg h2, if_neg h3, if_neg h4, if_neg h5, if_neg h6, if_neg h7, if_neg h8, if_neg h9, if_pos h]
    refine Tm_suc (fun k => by rw [x_sign]) ?_
    exact Tm_some rfl
  refine Tm_ite (fun h => ?_) (fun h11 => ?_)
  · rw [if_neg h0, if_neg h1, if_neg h2, if_neg h3, if_neg h4, if_neg h5, if_neg h6, if_neg h7, if_neg h8, if_neg h9, if_neg h10, if_pos h]
    refine Tm_suc (fun k => by rw [x_sign]) ?_
    refine Tm_ite (fun g => ?_) (fun g => ?_)
    · rw [if_pos g]
      refine Tm_suc (fun k => by rw [x_sign]) ?_
      exact Tm_some (by rw [upd_same])
    · rw [if_neg g]
      refine Tm_suc (fun k => by rw [x_sign]) ?_
      refine Tm_suc (fun k => by rw [x_sign]) ?_
      exact Tm_some (by rw [upd_same])
  refine Tm_ite (fun h => ?_) (fun h12 => ?_)
  · rw [if_neg h0, if_neg h1, if_neg h2, if_neg h3, if_neg h4, if_neg h5, if_neg h6, if_neg h7, if_neg h8, if_neg h9, if_neg h10, if_neg h11, if_pos h]
    refine Tm_suc (fun k => by rw [x_sign]) ?_
    exact Tm_some rfl
  refine Tm_ite (fun h => ?_) (fun h13 => ?_)
  · rw [if_neg h0, if_neg h1, if_neg h2, if_neg h3, if_neg h4, if_neg h5, if_neg h6, if_neg h7, if_neg h8, if_neg h9, if_neg h10, if_neg h11, if_neg h12, if_pos h]
    refine Tm_suc (fun k => by rw [x_sign]) ?_
    refine Tm_ite (fun g => ?_) (fun g => ?_)
    · rw [if_pos g]
      refine Tm_suc (fun k => by rw [x_sign]) ?_
      exact Tm_some (by rw [upd_same])
    · rw [if_neg g]
      refine Tm_suc (fun k => by rw [x_sign]) ?_
      refine Tm_suc (fun k => by rw [x_sign]) ?_
      exact Tm_some (by rw [upd_same])
  refine Tm_ite (fun h => ?_) (fun h14 => ?_)
  · rw [if_neg h0, if_neg h1, if_neg h2, if_neg h3, if_neg h4, if_neg h5, if_neg h6, if_neg h7, if_neg h8, if_neg h9, if_neg h10, if_neg h11, if_neg h12, if_neg h13, if_pos h]
    refine Tm_suc (fun k => by rw [x_sign]) ?_
    exact Tm_some rfl
  refine Tm_ite (fun h => ?_) (fun h15 => ?_)
  · rw [if_neg h0, if_neg h1, if_neg h2, if_neg h3, if_neg h4, if_neg h5, if_neg h6, if_neg h7, if_neg h8, if_neg h9, if_neg h10, if_neg h11, if_neg h12, if_neg h13, if_neg h14, if_pos h]
    refine Tm_suc (fun k => by rw [x_sign]) ?_
    exact Tm_some rfl
  refine Tm_ite (fun h => ?_) (fun h16 => ?_)
  · rw [if_neg h0, if_neg h1, if_neg h2, if_neg h3, if_neg h4, if_neg h5, if_neg h6, if_neg h7, if_neg h8, if_neg h9, if_neg h10, if_neg h11, if_neg h12, if_neg h13, if_neg h14, if_neg h15, if_pos h]
    refine Tm_suc (fun k => by rw [x_sign]) ?_
    exact Tm_some rfl
  refine Tm_ite (fun h => ?_) (fun h17 => ?_)
  · rw [if_neg h0, if_neg h1, if_neg h2, if_neg h3, if_neg h4, if_neg h5, if_neg h6, if_neg h7, if_neg h8, if_neg h9, if_neg h10, if_neg h11, if_neg h12, if_neg h13, if_neg h14, if_neg h15, if_neg h16, if_pos h]
    refine Tm_suc (fun k => by rw [x_sign]) ?_
    exact Tm_some rfl
  refine Tm_ite (fun h => ?_) (fun h18 => ?_)
  · rw [if_neg h0, if_neg h1, if_neg h2, if_neg h3, if_neg h4, if_neg h5, if_neg h6, if_neg h7, if_neg h8, if_neg h9, if_neg h10, if_neg h11, if_neg h12, if_neg h13, if_neg h14, if_neg h15, if_neg h16, if_neg h17, if_pos h]
    refine Tm_suc (fun k => by rw [x_sign]) ?_
    exact Tm_some rfl
  rw [if_neg h0, if_neg h1, if_neg h2, if_neg h3, if_neg h4, if_neg h5, if_neg h6, if_neg h7, if_neg h8, if_neg h9, if_neg h10, if_neg h11, if_neg h12, if_neg h13, if_neg h14, if_neg h15, if_neg h16, if_neg h17, if_neg h18]
  refine Tm_suc (fun k => by rw [x_sign]) ?_
  exact Tm_some rfl
theorem s_fault (L : Nat → Int32) (σ : MS) : Tm (fun k => x_fault k 0 L σ) (fun r => r = (0, if σ.1 10 = 0 then (upd (upd (upd σ.1 10 1) 11 (L 1)) 12 (L 2), σ.2) else σ)) := by
  refine Tm_suc (fun k => by rw [x_fault]) ?_
  refine Tm_ite (fun c => ?_) (fun c => ?_)
  · rw [if_pos c]
    refine Tm_suc (fun k => by rw [x_fault]) ?_
    refine Tm_suc (fun k => by rw [x_fault]) ?_
    refine Tm_suc (fun k => by rw [x_fault]) ?_
    exact Tm_some rfl
  · rw [if_neg c]
    refine Tm_suc (fun k => by rw [x_fault]) ?_
    exact Tm_some rfl
/-- a token that begins at q: its kind, what it is, its end; w: what the one before was -/
def tokM (w : Int32) (T : Nat → Int32) (n q : Nat) : Int32 × Int32 × Nat :=
  if q = n then (0, w, q)
  else if isL (rB T n q) then
    (if nameE T n (n + 1) q - q ≤ 16 then (if wordI (seg T q (nameE T n (n + 1) q)) = -1 then 1 else 5) else 6, wordI (seg T q (nameE T n (n + 1) q)), nameE T n (n + 1) q)
  else if isD (rB T n q) then (if digE T n (n + 1) q - q ≤ 60 then 2 else 6, w, digE T n (n + 1) q)
  else if rB T n q = 34 then
    (if (strE T n (n + 1) (q + 1) < n ∧ T (strE T n (n + 1) (q + 1)) = 34) ∧ strE T n (n + 1) (q + 1) - q - 1 ≤ 100 then 3 else 6, w, strE T n (n + 1) (q + 1) + (if strE T n (n + 1) (q + 1) < n ∧ T (strE T n (n + 1) (q + 1)) = 34 then 1 else 0))
  else (if signF (rB T n q) (rB T n (q + 1)) = 0 then 6 else 4, signF (rB T n q) (rB T n (q + 1)), q + (if signF (rB T n q) (rB T n (q + 1)) = 1 ∨ signF (rB T n q) (rB T n (q + 1)) = 5 ∨ signF (rB T n q) (rB T n (q + 1)) = 16 ∨ signF (rB T n q) (rB T n (q + 1)) = 18 ∨ signF (rB T n q) (rB T n (q + 1)) = 20 ∨ signF (rB T n q) (rB T n (q + 1)) = 22 then 2 else 1))
/-- what take leaves: the token t that begins at q -/
def mTook (σ : MS) (q : Nat) (t : Int32 × Int32 × Nat) (r : Int32 × MS) : Prop := r.2.2 = σ.2 ∧ r.2.1 5 = nI t.2.2 ∧ r.2.1 6 = t.1 ∧ r.2.1 7 = t.2.1 ∧ r.2.1 8 = nI q ∧ r.2.1 9 = nI t.2.2 ∧ (∀ j, j < 5 ∨ 12 < j → r.2.1 j = σ.1 j) ∧ (if t.1 = 6 ∧ σ.1 10 = 0 then r.2.1 10 = 1 ∧ r.2.1 11 = 1 ∧ r.2.1 12 = nI q else r.2.1 10 = σ.1 10 ∧ r.2.1 11 = σ.1 11 ∧ r.2.1 12 = σ.1 12)
theorem take_end {σ s : MS} {q : Nat} {t : Int32 × Int32 × Nat} (L : Nat → Int32) (h2 : s.2 = σ.2) (h5 : s.1 5 = nI t.2.2) (h6 : s.1 6 = t.1) (h7 : s.1 7 = t.2.1) (h8 : s.1 8 = nI q) (ho : ∀ j, j < 5 ∨ 9 < j → s.1 j = σ.1 j) : Tm (fun k => x_take k 33 L s) (mTook σ q t) := by
  refine Tm_suc (fun k => by rw [x_take]) ?_
  refine Tm_suc (fun k => by rw [x_take]) ?_
  have f6 : upd s.1 9 (s.1 5) 6 = t.1 := by rw [upd_other (by decide)]; exact h6
  have f10 : upd s.1 9 (s.1 5) 10 = σ.1 10 := by rw [upd_other (by decide)]; exact ho 10 (by decide)
  have f8 : upd s.1 9 (s.1 5) 8 = nI q := by rw [upd_other (by decide)]; exact h8
  have base : ∀ u : Nat → Int32, (∀ j, ¬ (j = 10 ∨ j = 11 ∨ j = 12) → u j = upd s.1 9 (s.1 5) j) → u 5 = nI t.2.2 ∧ u 6 = t.1 ∧ u 7 = t.2.1 ∧ u 8 = nI q ∧ u 9 = nI t.2.2 ∧ (∀ j, j < 5 ∨ 12 < j → u j = σ.1 j) := fun u hu => by
    refine ⟨?_, ?_, ?_, ?_, ?_, fun j hj => ?_⟩
    · rw [hu 5 (by decide), upd_other (by decide)]; exact h5
    · rw [hu 6 (by decide)]; exact f6
    · rw [hu 7 (by decide), upd_other (by decide)]; exact h7
    · rw [hu 8 (by decide)]; exact f8
    · rw [hu 9 (by decide), upd_same]; exact h5
    · rw [hu j (by omega), upd_other (by omega)]; exact ho j (by omega)
  have plain : ¬ (t.1 = 6 ∧ σ.1 10 = 0) → mTook σ q t (0, (upd s.1 9 (s.1 5), s.2.1, s.2.2)) := fun h => by
    obtain ⟨b5, b6, b7, b8, b9, bo⟩ := base (upd s.1 9 (s.1 5)) (fun _ _ => rfl)
    refine ⟨h2, b5, b6, b7, b8, b9, bo, ?_⟩
    rw [if_neg h]
    exact ⟨f10, by show upd s.1 9 (s.1 5) 11 = _; rw [upd_other (by decide)]; exact ho 11 (by decide), by show upd s.1 9 (s.1 5) 12 = _; rw [upd_other (by decide)]; exact ho 12 (by decide)⟩
  show Tm (fun k => if upd s.1 9 (s.1 5) 6 = 6 then _ else _) _
  rw [f6]
  refine Tm_ite (fun c => ?_) (fun c => ?_)
  · refine Tm_ob (s_fault _ _) (fun r hr => ?_)
    subst hr
    refine Tm_suc (fun k => by rw [x_take]) ?_
    refine Tm_some ?_
    show mTook σ q t (0, if upd s.1 9 (s.1 5) 10 = 0 then _ else _)
    rw [f10]
    by_cases g : σ.1 10 = 0
    · rw [if_pos g]
      obtain ⟨b5, b6, b7, b8, b9, bo⟩ := base (upd (upd (upd (upd s.1 9 (s.1 5)) 10 1) 11 1) 12 (nI q)) (fun j hj => by rw [upd_other (by omega), upd_other (by omega), upd_other (by omega)])
      have e : (upd (upd (upd (upd s.1 9 (s.1 5)) 10 1) 11 (upd (upd (fun _ => 0) 1 1) 2 (upd s.1 9 (s.1 5) 8) 1)) 12 (upd (upd (fun _ => 0) 1 1) 2 (upd s.1 9 (s.1 5) 8) 2) : Nat → Int32) = upd (upd (upd (upd s.1 9 (s.1 5)) 10 1) 11 1) 12 (nI q) := by
        rw [upd_same, upd_other (by decide), upd_same, f8]
      show mTook σ q t (0, (upd (upd (upd (upd s.1 9 (s.1 5)) 10 1) 11 (upd (upd (fun _ => 0) 1 1) 2 (upd s.1 9 (s.1 5) 8) 1)) 12 (upd (upd (fun _ => 0) 1 1) 2 (upd s.1 9 (s.1 5) 8) 2), s.2))
      rw [e]
      refine ⟨h2, b5, b6, b7, b8, b9, bo, ?_⟩
      rw [if_pos ⟨c, g⟩]
      refine ⟨?_, ?_, ?_⟩
      · show upd (upd (upd (upd s.1 9 (s.1 5)) 10 1) 11 1) 12 (nI q) 10 = 1
        rw [upd_other (by decide), upd_other (by decide), upd_same]
      · show upd (upd (upd (upd s.1 9 (s.1 5)) 10 1) 11 1) 12 (nI q) 11 = 1
        rw [upd_other (by decide), upd_same]
      · show upd (upd (upd (upd s.1 9 (s.1 5)) 10 1) 11 1) 12 (nI q) 12 = nI q
        rw [upd_same]
    · rw [if_neg g]
      exact plain (fun h => g h.2)
  · refine Tm_suc (fun k => by rw [x_take]) ?_
    exact Tm_some (plain (fun h => c h.1))
