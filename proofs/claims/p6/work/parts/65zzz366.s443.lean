/-! The class: its parser lays code. -/
section CVB
variable {σ σ' σ2 τ : CS} {L : LV} {b : Bool} {sz m n : Nat} {x y : Int32} {l l' : List Int32}
/-- the code of program b -/
abbrev cdr (b : Bool) (σ : CS) : Nat → Int32 := σ.2.2.1 (pR0 (sKd σ b))
abbrev cdn (b : Bool) (σ : CS) : Nat := sN σ (pR0 (sKd σ b))
def CdL (b : Bool) (sz : Nat) (σ : CS) : Prop := σ.1 (fP b 1) = nI sz ∧ sz ≤ cdn b σ ∧ (cdn b σ = 36864 ∨ (sN σ 43 = 1024 ∧ sN σ 51 = 1024))
def CdF (b : Bool) (σ σ' : CS) : Prop := (∀ j, ¬ j = fP b 1 → σ'.1 j = σ.1 j) ∧ σ'.2.1 = σ.2.1 ∧ (∀ k, ¬ (k = 43 ∨ k = 51) → σ'.2.2.1 k = σ.2.2.1 k ∧ sN σ' k = sN σ k) ∧ σ'.2.2.2.1 = σ.2.2.2.1 ∧ (sCur σ' = sCur σ ∧ sOt σ' = sOt σ ∧ sPr σ' = sPr σ ∧ sPp σ' = sPp σ) ∧ (∀ c, ¬ c = b → sKd σ' c = sKd σ c) ∧ σ'.2.2.2.2.2.2 = σ.2.2.2.2.2.2
theorem CdF_r (b : Bool) (σ : CS) : CdF b σ σ := ⟨fun _ _ => rfl, rfl, fun _ _ => ⟨rfl, rfl⟩, rfl, ⟨rfl, rfl, rfl, rfl⟩, fun _ _ => rfl, rfl⟩
theorem CdF_t (a : CdF b σ σ') (d : CdF b σ' σ2) : CdF b σ σ2 := ⟨fun j hj => (d.1 j hj).trans (a.1 j hj), d.2.1.trans a.2.1, fun k hk => ⟨(d.2.2.1 k hk).1.trans (a.2.2.1 k hk).1, (d.2.2.1 k hk).2.trans (a.2.2.1 k hk).2⟩, d.2.2.2.1.trans a.2.2.2.1, ⟨d.2.2.2.2.1.1.trans a.2.2.2.2.1.1, d.2.2.2.2.1.2.1.trans a.2.2.2.2.1.2.1, d.2.2.2.2.1.2.2.1.trans a.2.2.2.2.1.2.2.1, d.2.2.2.2.1.2.2.2.trans a.2.2.2.2.1.2.2.2⟩, fun c hc => (d.2.2.2.2.2.1 c hc).trans (a.2.2.2.2.2.1 c hc), d.2.2.2.2.2.2.trans a.2.2.2.2.2.2⟩
/-- ints are laid behind the code -/
def CdO (b : Bool) (sz : Nat) (l : List Int32) (σ σ' : CS) : Prop := CdF b σ σ' ∧ CdL b (sz + l.length) σ' ∧ (∀ i, i < sz → cdr b σ' i = cdr b σ i ∧ cdr (!b) σ' i = cdr (!b) σ i) ∧ ∀ i, i < l.length → cdr b σ' (sz + i) = l.getD i 0
theorem CdO_t (a : CdO b sz l σ σ') (d : CdO b (sz + l.length) l' σ' σ2) : CdO b sz (l ++ l') σ σ2 := by
  obtain ⟨a1, a2, a3, a4⟩ := a
  obtain ⟨d1, d2, d3, d4⟩ := d
  refine ⟨CdF_t a1 d1, ?_, fun i hi => ⟨(d3 i (by omega)).1.trans (a3 i hi).1, (d3 i (by omega)).2.trans (a3 i hi).2⟩, fun i hi => ?_⟩
  · rw [List.length_append, ← Nat.add_assoc]; exact d2
  · rw [List.length_append] at hi
    rcases Nat.lt_or_ge i l.length with z | z
    · rw [(d3 (sz + i) (by omega)).1, a4 i z, gd_l z]
    · have e := d4 (i - l.length) (by omega)
      rw [show sz + l.length + (i - l.length) = sz + i from by omega] at e
      rw [e]
      have g := gd_r (a := l) (b := l') (i - l.length)
      rw [show l.length + (i - l.length) = i from by omega] at g
      exact g.symm
theorem pR0_c (b : Bool) : pR0 b = 43 ∨ pR0 b = 51 := by cases b; exact Or.inl rfl; exact Or.inr rfl
theorem fP_ne (b : Bool) {i j : Nat} (h : ¬ i = j) : ¬ fP b i = fP b j := by
  unfold fP
  cases b
  · show ¬ 6800 + i = 6800 + j; omega
  · show ¬ 5000 + i = 5000 + j; omega
/-- a wider row for the code: once -/
theorem uC_ok (h : CdL b sz σ) (h1 : sN σ 43 = 1024 ∧ sN σ 51 = 1024) : CdO b sz [] σ (uC σ b 36864) ∧ cdn b (uC σ b 36864) = 36864 ∧ 1 + PhC (uC σ b 36864) ≤ PhC σ ∧ 36864 + PhS (uC σ b 36864) ≤ PhS σ := by
  obtain ⟨c1, c2, c3⟩ := h
  have kb : sKd (uC σ b 36864) b = tS σ b := if_pos rfl
  have ko : ∀ c, ¬ c = b → sKd (uC σ b 36864) c = sKd σ c := fun c hc => if_neg hc
  have n0 : cdn b σ = 1024 := by
    rcases pR0_c (sKd σ b) with z | z
    · show sN σ (pR0 (sKd σ b)) = _; rw [z]; exact h1.1
    · show sN σ (pR0 (sKd σ b)) = _; rw [z]; exact h1.2
  have nn : cdn b (uC σ b 36864) = 36864 := by
    show updN (sN σ) (pR0 (tS σ b)) 36864 (pR0 (sKd (uC σ b 36864) b)) = _
    rw [kb]
    exact if_pos rfl
  have rr : cdr b (uC σ b 36864) = fun i => if i < sN σ (pR0 (sKd σ b)) then σ.2.2.1 (pR0 (sKd σ b)) i else 0 := by
    show updG σ.2.2.1 (pR0 (tS σ b)) _ (pR0 (sKd (uC σ b 36864) b)) = _
    rw [kb, updG_same]
  have nb : ¬ (!b) = b := by cases b <;> decide
  have ro : ∀ i, i < sz → cdr (!b) (uC σ b 36864) i = cdr (!b) σ i := fun i hi => by
    show updG σ.2.2.1 (pR0 (tS σ b)) _ (pR0 (sKd (uC σ b 36864) (!b))) i = σ.2.2.1 (pR0 (sKd σ (!b))) i
    rw [ko _ nb]
    have ne : ¬ pR0 (sKd σ (!b)) = pR0 (tS σ b) := by
      unfold tS
      by_cases z : sKd σ (!b) = sKd σ b
      · rw [if_pos z, z]
        cases sKd σ b <;> decide
      · rw [if_neg z]
        revert z
        cases sKd σ (!b) <;> cases sKd σ b <;> decide
    rw [updG_other ne]
  refine ⟨⟨⟨fun _ _ => rfl, rfl, fun k hk => ?_, rfl, ⟨rfl, rfl, rfl, rfl⟩, ko, rfl⟩, ⟨c1, ?_, Or.inl nn⟩, fun i hi => ⟨?_, ro i hi⟩, fun i hi => absurd hi (Nat.not_lt_zero _)⟩, nn, ?_⟩
  · have ne : ¬ k = pR0 (tS σ b) := fun e => by rcases pR0_c (tS σ b) with z | z <;> omega
    exact ⟨updG_other ne, if_neg ne⟩
  · rw [nn]; show sz + 0 ≤ _; omega
  · rw [rr]
    show (if i < sN σ (pR0 (sKd σ b)) then _ else _) = _
    rw [if_pos (by have : sz ≤ sN σ (pR0 (sKd σ b)) := c2; omega)]
  · have o : ∀ k, ¬ (k = 43 ∨ k = 51) → sN (uC σ b 36864) k = sN σ k := fun k hk => if_neg (fun e => by rcases pR0_c (tS σ b) with z | z <;> omega)
    have o4 : (sN (uC σ b 36864) 43 = 36864 ∧ sN (uC σ b 36864) 51 = 1024) ∨ (sN (uC σ b 36864) 43 = 1024 ∧ sN (uC σ b 36864) 51 = 36864) := by
      rcases pR0_c (tS σ b) with z | z
      · left
        refine ⟨?_, ?_⟩
        · show (if 43 = pR0 (tS σ b) then 36864 else sN σ 43) = _; rw [if_pos z.symm]
        · show (if 51 = pR0 (tS σ b) then 36864 else sN σ 51) = _; rw [if_neg (by omega)]; exact h1.2
      · right
        refine ⟨?_, ?_⟩
        · show (if 43 = pR0 (tS σ b) then 36864 else sN σ 43) = _; rw [if_neg (by omega)]; exact h1.1
        · show (if 51 = pR0 (tS σ b) then 36864 else sN σ 51) = _; rw [if_pos z.symm]
    unfold PhC PhS cdC cdS pC pS
    rw [o 3 (by decide), o 1 (by decide), o 2 (by decide), o 20 (by decide), o 21 (by decide), o 22 (by decide), o 26 (by decide), o 41 (by decide), o 42 (by decide), o 66 (by decide), o 38 (by decide), h1.1, h1.2]
    have a1 : (if (36864 : Nat) < 36864 then (1 : Nat) else 0) = 0 := if_neg (by decide)
    have a2 : (if (1024 : Nat) < 36864 then (1 : Nat) else 0) = 1 := if_pos (by decide)
    have b1 : (if (36864 : Nat) < 36864 then (36864 : Nat) else 0) = 0 := if_neg (by decide)
    have b2 : (if (1024 : Nat) < 36864 then (36864 : Nat) else 0) = 36864 := if_pos (by decide)
    rcases o4 with ⟨z1, z2⟩ | ⟨z1, z2⟩
    · rw [z1, z2, a1, a2, b1, b2]
      constructor <;> omega
    · rw [z1, z2, a1, a2, b1, b2]
      constructor <;> omega
theorem CdO_0 (h : CdL b sz σ) : CdO b sz [] σ σ := ⟨CdF_r b σ, h, fun _ _ => ⟨rfl, rfl⟩, fun i hi => absurd hi (Nat.not_lt_zero _)⟩
theorem c_widenC (h : CdL b sz σ) (hb : L.2.2.1 0 = b) (h1 : L.1 1 = nI m) (hm : sz + m ≤ 36864) : Tm (fun k => f_X7_widen__P k 0 L σ) (fun r => r.1 = (0, 0) ∧ CoP σ r ∧ CdO b sz [] σ r.2.1 ∧ sz + m ≤ cdn b r.2.1) := by
  obtain ⟨c1, c2, c3⟩ := h
  have ea : ∀ τ : CS, τ.1 (fP b 1) = nI sz → τ.1 (fP b 1) + L.1 1 = nI (sz + m) := fun τ e => by rw [e, h1, n_add (by omega)]
  have b2 : ∀ (τ : CS) (n1 n2 : Nat), (n1 + PhC τ ≤ PhC σ ∧ n2 + PhS τ ≤ PhS σ) → CdO b sz [] σ τ → sz + m ≤ cdn b τ → cdn b τ ≤ 36864 → Tm (fun k => f_X7_widen__P k 1 L τ) (fun q => q.1 = (0, 0) ∧ CoP σ (q.1, q.2.1, (n1 + q.2.2.1, n2 + q.2.2.2)) ∧ CdO b sz [] σ q.2.1 ∧ sz + m ≤ cdn b q.2.1) := by
    intro τ n1 n2 co cd hh hh2
    have e1 : τ.1 (fP b 1) = nI sz := cd.2.1.1
    refine Tm_suc (fun k => by rw [f_X7_widen__P]) ?_
    rw [hb, ea τ e1]
    refine Tm_yes ?_ ?_
    · show nI (sz + m) ≤ nI (cdn b τ)
      rw [n_le (by omega) (by omega)]; exact hh
    · refine Tm_suc (fun k => by rw [f_X7_widen__P]) ?_
      exact Tm_some ⟨rfl, ⟨by show n1 + 0 + PhC τ ≤ _; omega, by show n2 + 0 + PhS τ ≤ _; omega⟩, cd, hh⟩
  have n36 : cdn b σ ≤ 36864 := by
    rcases c3 with z | z
    · omega
    · rcases pR0_c (sKd σ b) with y | y
      · show sN σ (pR0 (sKd σ b)) ≤ _; rw [y, z.1]; decide
      · show sN σ (pR0 (sKd σ b)) ≤ _; rw [y, z.2]; decide
  refine Tm_suc (fun k => by rw [f_X7_widen__P]) ?_
  rw [hb, ea σ c1]
  refine Tm_ite (fun c => ?_) (fun c => ?_)
  · have c' : nI (sz + m) ≤ nI (cdn b σ) := c
    rw [n_le (by omega) (by omega)] at c'
    refine Tm_mono (b2 σ 0 0 ⟨by omega, by omega⟩ (CdO_0 ⟨c1, c2, c3⟩) c' n36) (fun q z => ?_)
    rw [Nat.zero_add, Nat.zero_add] at z
    exact z
  · have c' : ¬ nI (sz + m) ≤ nI (cdn b σ) := c
    rw [n_le (by omega) (by omega)] at c'
    rcases c3 with z | z
    · omega
    · have n0 : cdn b σ = 1024 := by
        rcases pR0_c (sKd σ b) with y | y
        · show sN σ (pR0 (sKd σ b)) = _; rw [y]; exact z.1
        · show sN σ (pR0 (sKd σ b)) = _; rw [y]; exact z.2
      have n0' : sN σ (pR0 (sKd σ b)) = 1024 := n0
      obtain ⟨u1, u2, u3, u4⟩ := uC_ok (sz := sz) ⟨c1, c2, Or.inr z⟩ z
      refine Tm_no ?_ ?_
      · rw [n0']; decide
      · refine Tm_chk ⟨by decide, by decide, by rw [n0']; decide⟩ (Tm_chk (by rw [n0']; decide) ?_)
        refine Tm_adR ?_
        refine Tm_mono (b2 (uC σ b 36864) 1 36864 ⟨u3, u4⟩ u1 (by rw [u2]; exact hm) (by rw [u2]; exact Nat.le_refl _)) (fun q y => y)
/-- one int -/
theorem CdO_1 (h : CdO b sz [] σ τ) (hn : sz + 1 ≤ cdn b τ) (x : Int32) : CdO b sz [x] σ (uI (uA τ (pR0 (sKd τ b)) sz x) (fP b 1) (nI (sz + 1))) := by
  obtain ⟨h1, ⟨h2, h3, h4⟩, h5, h6⟩ := h
  have nb : ¬ (!b) = b := by cases b <;> decide
  refine ⟨CdF_t h1 ⟨fun j hj => uI_o hj, rfl, fun k hk => ⟨updG_other (fun e => by rcases pR0_c (sKd τ b) with z | z <;> omega), rfl⟩, rfl, ⟨rfl, rfl, rfl, rfl⟩, fun _ _ => rfl, rfl⟩, ⟨uI_s, hn, h4⟩, fun i hi => ⟨?_, ?_⟩, fun i hi => ?_⟩
  · rw [← (h5 i hi).1]
    show updG τ.2.2.1 (pR0 (sKd τ b)) (upd (τ.2.2.1 (pR0 (sKd τ b))) sz x) (pR0 (sKd τ b)) i = _
    rw [updG_same, upd_other (by omega)]
  · rw [← (h5 i hi).2]
    show updG τ.2.2.1 (pR0 (sKd τ b)) (upd (τ.2.2.1 (pR0 (sKd τ b))) sz x) (pR0 (sKd τ (!b))) i = _
    by_cases e : pR0 (sKd τ (!b)) = pR0 (sKd τ b)
    · rw [e, updG_same, upd_other (by omega)]
      show _ = τ.2.2.1 (pR0 (sKd τ (!b))) i
      rw [e]
    · rw [updG_other e]
  · have hi' : i < 1 := hi
    rw [show i = 0 from by omega]
    show updG τ.2.2.1 (pR0 (sKd τ b)) (upd (τ.2.2.1 (pR0 (sKd τ b))) sz x) (pR0 (sKd τ b)) (sz + 0) = x
    rw [updG_same, Nat.add_zero, upd_same]
theorem sub1_n {k : Nat} (h : k < 1000000) : nI (k + 1) - 1 = nI k := by
  rw [show (1 : Int32) = nI 1 from rfl, n_sub (by omega) (by omega)]
  exact congrArg nI (by omega)
theorem c_emit (h : CdL b sz σ) (hb : L.2.2.1 0 = b) (hm : sz + 1 ≤ 36864) : Tm (fun k => f_X7_emit__P k 0 L σ) (fun r => r.1 = (0, nI sz) ∧ CoP σ r ∧ CdO b sz [L.1 1 ||| (L.1 2 <<< ((8 : Int32) &&& 31))] σ r.2.1) := by
  refine Tm_suc (fun k => by rw [f_X7_emit__P]) ?_
  refine Tm_oxc (c_widenC (m := 1) h hb rfl hm) (fun r z => by rw [z.1]) (fun r z => ?_)
  obtain ⟨z1, z2, z3, z4⟩ := z
  have e1 : r.2.1.1 (fP b 1) = nI sz := z3.2.1.1
  have s2 : sz < cdn b r.2.1 := by omega
  have s3 : cdn b r.2.1 ≤ 2147483648 := by
    rcases z3.2.1.2.2 with y | y
    · omega
    · rcases pR0_c (sKd r.2.1 b) with w | w
      · show sN r.2.1 (pR0 (sKd r.2.1 b)) ≤ _; rw [w, y.1]; decide
      · show sN r.2.1 (pR0 (sKd r.2.1 b)) ≤ _; rw [w, y.2]; decide
  rw [hb, e1]
  refine Tm_chk (u_in (by rw [u_n (by omega)]; exact s2) s3) ?_
  rw [n_cl (by omega)]
  have e2 : (uA r.2.1 (pR0 (sKd r.2.1 b)) sz (L.1 1 ||| (L.1 2 <<< ((8 : Int32) &&& 31)))).1 (fP b 1) + 1 = nI (sz + 1) := by
    show r.2.1.1 (fP b 1) + 1 = _
    rw [e1, n_add1]
  rw [e2]
  refine Tm_some ⟨?_, ?_, CdO_1 z3 z4 _⟩
  · show (0, (uI (uA r.2.1 (pR0 (sKd r.2.1 b)) sz (L.1 1 ||| (L.1 2 <<< ((8 : Int32) &&& 31)))) (fP b 1) (nI (sz + 1))).1 (fP b 1) - 1) = _
    rw [uI_s, sub1_n (by omega)]
  · have ph := Ph_s (σ := r.2.1) (σ' := uI (uA r.2.1 (pR0 (sKd r.2.1 b)) sz (L.1 1 ||| (L.1 2 <<< ((8 : Int32) &&& 31)))) (fP b 1) (nI (sz + 1))) rfl
    obtain ⟨p1, p2⟩ := z2
    refine ⟨?_, ?_⟩
    · show r.2.2.1 + 0 + PhC (uI (uA r.2.1 (pR0 (sKd r.2.1 b)) sz (L.1 1 ||| (L.1 2 <<< ((8 : Int32) &&& 31)))) (fP b 1) (nI (sz + 1))) ≤ _
      omega
    · show r.2.2.2 + 0 + PhS (uI (uA r.2.1 (pR0 (sKd r.2.1 b)) sz (L.1 1 ||| (L.1 2 <<< ((8 : Int32) &&& 31)))) (fP b 1) (nI (sz + 1))) ≤ _
      omega
theorem c_word (h : CdL b sz σ) (hb : L.2.2.1 0 = b) (hm : sz + 1 ≤ 36864) : Tm (fun k => f_X7_word__P k 0 L σ) (fun r => r.1 = (0, nI sz) ∧ CoP σ r ∧ CdO b sz [L.1 1] σ r.2.1) := by
  refine Tm_suc (fun k => by rw [f_X7_word__P]) ?_
  refine Tm_oxc (c_widenC (m := 1) h hb rfl hm) (fun r z => by rw [z.1]) (fun r z => ?_)
  obtain ⟨z1, z2, z3, z4⟩ := z
  have e1 : r.2.1.1 (fP b 1) = nI sz := z3.2.1.1
  have s2 : sz < cdn b r.2.1 := by omega
  have s3 : cdn b r.2.1 ≤ 2147483648 := by
    rcases z3.2.1.2.2 with y | y
    · omega
    · rcases pR0_c (sKd r.2.1 b) with w | w
      · show sN r.2.1 (pR0 (sKd r.2.1 b)) ≤ _; rw [w, y.1]; decide
      · show sN r.2.1 (pR0 (sKd r.2.1 b)) ≤ _; rw [w, y.2]; decide
  rw [hb, e1]
  refine Tm_chk (u_in (by rw [u_n (by omega)]; exact s2) s3) ?_
  rw [n_cl (by omega)]
  have e2 : (uA r.2.1 (pR0 (sKd r.2.1 b)) sz (L.1 1)).1 (fP b 1) + 1 = nI (sz + 1) := by
    show r.2.1.1 (fP b 1) + 1 = _
    rw [e1, n_add1]
  rw [e2]
  refine Tm_some ⟨?_, ?_, CdO_1 z3 z4 _⟩
  · show (0, (uI (uA r.2.1 (pR0 (sKd r.2.1 b)) sz (L.1 1)) (fP b 1) (nI (sz + 1))).1 (fP b 1) - 1) = _
    rw [uI_s, sub1_n (by omega)]
  · have ph := Ph_s (σ := r.2.1) (σ' := uI (uA r.2.1 (pR0 (sKd r.2.1 b)) sz (L.1 1)) (fP b 1) (nI (sz + 1))) rfl
    obtain ⟨p1, p2⟩ := z2
    refine ⟨?_, ?_⟩
    · show r.2.2.1 + 0 + PhC (uI (uA r.2.1 (pR0 (sKd r.2.1 b)) sz (L.1 1)) (fP b 1) (nI (sz + 1))) ≤ _
      omega
    · show r.2.2.2 + 0 + PhS (uI (uA r.2.1 (pR0 (sKd r.2.1 b)) sz (L.1 1)) (fP b 1) (nI (sz + 1))) ≤ _
      omega
end CVB
