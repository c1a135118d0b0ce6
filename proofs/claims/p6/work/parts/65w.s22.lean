/-! The reference looks a name up: those of iters and calls from the newest on, then the program's. -/
/-- row j of a table that has places in row a, sizes in row b: it lies in the pool -/
def mRow (σ : MS) (a b j p l : Nat) : Prop := σ.2.2 a j = nI p ∧ σ.2.2 b j = nI l ∧ p + l ≤ 70000
/-- the name that was read is row j's -/
def mIs (σ : MS) (f m a b j : Nat) : Prop := ∃ p l, mRow σ a b j p l ∧ mNm σ f m p l
theorem mIs_iff {σ : MS} {f m a b j p l : Nat} (h : mRow σ a b j p l) : mIs σ f m a b j ↔ mNm σ f m p l := by
  refine ⟨fun q => ?_, fun q => ⟨p, l, h, q⟩⟩
  obtain ⟨p', l', h', q⟩ := q
  have e1 : nI p' = nI p := h'.1.symm.trans h.1
  have e2 : nI l' = nI l := h'.2.1.symm.trans h.2.1
  have hp := h.2.2
  have hp' := h'.2.2
  rw [n_eq (by omega) (by omega)] at e1 e2
  subst e1
  subst e2
  exact q
/-- what find leaves -/
def mFound (σ : MS) (f m c d : Nat) (u : Nat → Int32) : Prop := (∀ j, j ≠ 46 → j ≠ 47 → j ≠ 48 → u j = σ.1 j) ∧
  ((∃ k, k < c ∧ mIs σ f m 22 23 k ∧ (∀ j, k < j → j < c → ¬ mIs σ f m 22 23 j) ∧ u 46 = 1 ∧ u 47 = σ.2.2 24 k ∧ u 48 = (if σ.1 37 ≤ 0 then 0 else 1)) ∨
   ((∀ j, j < c → ¬ mIs σ f m 22 23 j) ∧ ∃ k, k < d ∧ mIs σ f m 14 15 k ∧ (∀ j, j < k → ¬ mIs σ f m 14 15 j) ∧ u 46 = σ.2.2 13 k ∧ u 47 = σ.2.2 16 k ∧ u 48 = 0) ∨
   ((∀ j, j < c → ¬ mIs σ f m 22 23 j) ∧ (∀ j, j < d → ¬ mIs σ f m 14 15 j) ∧ u 46 = 0))
theorem s_find {σ : MS} {f e c d : Nat} (h8 : σ.1 8 = nI f) (h9 : σ.1 9 = nI e) (hfe : f ≤ e) (he : e ≤ 32768) (h38 : σ.1 38 = nI c) (hc : c ≤ 400) (h25 : σ.1 25 = nI d) (hd : d ≤ 200) (hS : ∀ j, j < c → ∃ p l, mRow σ 22 23 j p l) (hE : ∀ j, j < d → ∃ p l, mRow σ 14 15 j p l) (L : Nat → Int32) : Tm (fun k => x_find k 0 L σ) (fun r => r.2.2 = σ.2 ∧ mFound σ f (e - f) c d r.2.1) := by
  refine Tm_suc (fun k => by rw [x_find]) ?_
  generalize hs : ((upd σ.1 46 0, σ.2.1, σ.2.2) : MS) = s
  have so : ∀ j, j ≠ 46 → s.1 j = σ.1 j := fun j h => by rw [← hs]; exact (upd_other h : upd σ.1 46 0 j = σ.1 j)
  have s46 : s.1 46 = 0 := by rw [← hs]; exact (upd_same : upd σ.1 46 0 46 = 0)
  have s2 : s.2 = σ.2 := by rw [← hs]
  have s22 : s.2.2 = σ.2.2 := by rw [← hs]
  clear hs
  have t8 : s.1 8 = nI f := by rw [so 8 (by decide)]; exact h8
  have t9 : s.1 9 = nI e := by rw [so 9 (by decide)]; exact h9
  have nm : ∀ m p l, mNm s f m p l ↔ mNm σ f m p l := fun m p l => by unfold mNm; rw [s22]
  -- the second table
  have ents : (∀ j, j < c → ¬ mIs σ f (e - f) 22 23 j) → ∀ (m k : Nat) (M : Nat → Int32), m + k = d → M 1 = nI k → (∀ j, j < k → ¬ mIs σ f (e - f) 14 15 j) → Tm (fun q => x_find q 9 M s) (fun r => r.2.2 = σ.2 ∧ mFound σ f (e - f) c d r.2.1) := by
    intro hno m
    induction m with
    | zero =>
      intro k M hm m1 hk
      obtain rfl : k = d := by omega
      refine Tm_suc (fun q => by rw [x_find]) ?_
      rw [so 25 (by decide), h25, m1]
      refine Tm_ite (fun _ => ?_) (fun g => absurd (by rw [n_le (by omega) (by omega)]; exact Nat.le_refl _) g)
      refine Tm_suc (fun q => by rw [x_find]) ?_
      exact Tm_some ⟨s2, fun j a b c => so j a, Or.inr (Or.inr ⟨hno, hk, s46⟩)⟩
    | succ m ih =>
      intro k M hm m1 hk
      obtain ⟨p, l, hr⟩ := hE k (by omega)
      refine Tm_suc (fun q => by rw [x_find]) ?_
      rw [so 25 (by decide), h25, m1]
      refine Tm_ite (fun g => ?_) (fun _ => ?_)
      · rw [n_le (by omega) (by omega)] at g; omega
      refine Tm_chk (n_in (by omega) (by omega)) ?_
      refine Tm_chk (n_in (by omega) (by omega)) ?_
      rw [n_cl (p := k) (by omega), s22, hr.1, hr.2.1]
      refine Tm_ob (s_isNamed t8 t9 hfe he hr.2.2 _ (by rw [upd_other (by decide), upd_same]) upd_same) (fun r4 h4 => ?_)
      obtain ⟨e4, i4⟩ := h4
      rw [nm] at i4
      refine Tm_ite (fun g => ?_) (fun g => ?_)
      · rw [e4]
        refine Tm_suc (fun q => by rw [x_find]) ?_
        rw [m1, n_add1]
        exact ih (k + 1) _ (by omega) upd_same (fun j hj => by
          by_cases z : j = k
          · subst z; rw [mIs_iff hr]; exact fun w => i4.mpr w g
          · exact hk j (by omega))
      · refine Tm_chk (by rw [i_lt, n_int (p := k) (by omega), i_c0]; omega) ?_
        refine Tm_suc (fun q => by rw [x_find]) ?_
        rw [m1]
        refine Tm_chk (n_in (by omega) (by omega)) ?_
        refine Tm_suc (fun q => by rw [x_find]) ?_
        rw [e4, n_cl (p := k) (by omega)]
        refine Tm_some ⟨s2, fun j a b z => ?_, Or.inr (Or.inl ⟨hno, k, by omega, (mIs_iff hr).mpr (i4.mp g), hk, ?_, ?_, ?_⟩)⟩
        · show upd (upd (upd s.1 46 (s.2.2 13 k)) 47 (s.2.2 16 k)) 48 0 j = _
          rw [upd_other z, upd_other b, upd_other a]; exact so j a
        · show upd (upd (upd s.1 46 (s.2.2 13 k)) 47 (s.2.2 16 k)) 48 0 46 = _
          rw [upd_other (by decide), upd_other (by decide), upd_same, s22]
        · show upd (upd (upd s.1 46 (s.2.2 13 k)) 47 (s.2.2 16 k)) 48 0 47 = _
          rw [upd_other (by decide), upd_same, s22]
        · show upd (upd (upd s.1 46 (s.2.2 13 k)) 47 (s.2.2 16 k)) 48 0 48 = _
          rw [upd_same]
  -- the first table, from the newest on
  have seen : ∀ (k : Nat) (M : Nat → Int32), k ≤ c → M 1 = nI k - 1 → (∀ j, k ≤ j → j < c → ¬ mIs σ f (e - f) 22 23 j) → Tm (fun q => x_find q 2 M s) (fun r => r.2.2 = σ.2 ∧ mFound σ f (e - f) c d r.2.1) := by
    intro k
    induction k with
    | zero =>
      intro M hk m1 hno
      refine Tm_suc (fun q => by rw [x_find]) ?_
      rw [m1]
      refine Tm_ite (fun _ => ?_) (fun g => absurd (by decide) g)
      refine Tm_suc (fun q => by rw [x_find]) ?_
      exact ents (fun j hj => hno j (by omega) hj) d 0 _ (by omega) (by rw [upd_same]; rfl) (fun j hj => absurd hj (by omega))
    | succ k ih =>
      intro M hk m1 hno
      obtain ⟨p, l, hr⟩ := hS k (by omega)
      have m1 : M 1 = nI k := by rw [m1, show nI (k + 1) - 1 = nI (k + 1 - 1) from n_sub (q := 1) (by omega) (by omega)]; rfl
      refine Tm_suc (fun q => by rw [x_find]) ?_
      rw [m1]
      refine Tm_ite (fun g => ?_) (fun _ => ?_)
      · rw [i_lt, n_int (by omega), i_c0] at g; omega
      refine Tm_chk (n_in (by omega) (by omega)) ?_
      refine Tm_chk (n_in (by omega) (by omega)) ?_
      rw [n_cl (p := k) (by omega), s22, hr.1, hr.2.1]
      refine Tm_ob (s_isNamed t8 t9 hfe he hr.2.2 _ (by rw [upd_other (by decide), upd_same]) upd_same) (fun r4 h4 => ?_)
      obtain ⟨e4, i4⟩ := h4
      rw [nm] at i4
      refine Tm_ite (fun g => ?_) (fun g => ?_)
      · rw [e4]
        refine Tm_suc (fun q => by rw [x_find]) ?_
        rw [m1]
        refine ih (upd M 1 (nI k + -1)) (by omega) (by rw [upd_same]; exact (Int32.sub_eq_add_neg (nI k) 1).symm) (fun j hj hjc => ?_)
        by_cases z : j = k
        · subst z; rw [mIs_iff hr]; exact fun w => i4.mpr w g
        · exact hno j (by omega) hjc
      · rw [e4]
        refine Tm_suc (fun q => by rw [x_find]) ?_
        rw [m1]
        refine Tm_chk (n_in (by omega) (by omega)) ?_
        rw [n_cl (p := k) (by omega)]
        have fin : ∀ (x : Int32) (K : Nat → Int32), K 100 = x → (x = 0 ∨ x = 1) → x = (if σ.1 37 ≤ 0 then 0 else 1) → Tm (fun q => x_find q 6 K (upd (upd s.1 46 1) 47 (s.2.2 24 k), s.2.1, s.2.2)) (fun r => r.2.2 = σ.2 ∧ mFound σ f (e - f) c d r.2.1) := fun x K hx h01 hv => by
          refine Tm_suc (fun q => by rw [x_find]) ?_
          rw [hx]
          refine Tm_chk h01 ?_
          refine Tm_some ⟨s2, fun j a b z => ?_, Or.inl ⟨k, by omega, (mIs_iff hr).mpr (i4.mp g), fun j hj hjc => hno j (by omega) hjc, ?_, ?_, ?_⟩⟩
          · show upd (upd (upd s.1 46 1) 47 (s.2.2 24 k)) 48 x j = _
            rw [upd_other z, upd_other b, upd_other a]; exact so j a
          · show upd (upd (upd s.1 46 1) 47 (s.2.2 24 k)) 48 x 46 = _
            rw [upd_other (by decide), upd_other (by decide), upd_same]
          · show upd (upd (upd s.1 46 1) 47 (s.2.2 24 k)) 48 x 47 = _
            rw [upd_other (by decide), upd_same, s22]
          · show upd (upd (upd s.1 46 1) 47 (s.2.2 24 k)) 48 x 48 = _
            rw [upd_same]; exact hv
        refine Tm_suc (fun q => by rw [x_find]) ?_
        have e37 : upd (upd s.1 46 1) 47 (s.2.2 24 k) 37 = σ.1 37 := by rw [upd_other (by decide), upd_other (by decide)]; exact so 37 (by decide)
        show Tm (fun q => if upd (upd s.1 46 1) 47 (s.2.2 24 k) 37 ≤ 0 then _ else _) _
        rw [e37]
        refine Tm_ite (fun z => ?_) (fun z => ?_)
        · refine Tm_suc (fun q => by rw [x_find]) ?_
          exact fin 0 _ upd_same (Or.inl rfl) (by rw [if_pos z])
        · exact fin 1 _ upd_same (Or.inr rfl) (by rw [if_neg z])
  refine Tm_suc (fun k => by rw [x_find]) ?_
  exact seen c _ (Nat.le_refl _) (by rw [upd_same, so 38 (by decide), h38]) (fun j hj hjc => by omega)
