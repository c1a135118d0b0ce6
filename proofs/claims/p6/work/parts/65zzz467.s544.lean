/-! The house: what program leaves. -/
section DYT
variable {σ σ1 σ2 s : CS} {c : Ct} {gl : List Gn} {pr : Nat → Nat} {b cu : Bool} {sz V j n : Nat} {XE : XEt} {L : LV} {v : Int32}
/-- all but tape, parser, code and the other program's rows -/
def PgFr (b : Bool) (σ s : CS) : Prop := ((∀ j, ¬ (j = 404 ∨ (3701 ≤ j ∧ j ≤ 3704) ∨ (4003 ≤ j ∧ j ≤ 4020) ∨ (fP b 1 ≤ j ∧ j ≤ fP b 19) ∨ (7510 ≤ j ∧ j ≤ 7513)) → s.1 j = σ.1 j) ∧ ∀ j, ¬ (j = 3705 ∨ j = 3706) → s.2.1 j = σ.2.1 j) ∧ ((∀ k, ¬ ((5 ≤ k ∧ k ≤ 11) ∨ k = 38 ∨ (41 ≤ k ∧ k ≤ 43) ∨ k = 51 ∨ pRw b k) → s.2.2.1 k = σ.2.2.1 k) ∧ (∀ k, ¬ (k = 38 ∨ (41 ≤ k ∧ k ≤ 43) ∨ k = 51) → sN s k = sN σ k) ∧ ∀ k, ¬ (k = pR5 b ∨ k = pR6 b) → s.2.2.2.1 k = σ.2.2.2.1 k) ∧ sPr s = sPr σ ∧ s.2.2.2.2.2.2 = σ.2.2.2.2.2.2
theorem pRw_n (b : Bool) {k : Nat} (h : k = 1 ∨ k = 2 ∨ k = 3 ∨ k = 13 ∨ (20 ≤ k ∧ k ≤ 27) ∨ (64 ≤ k ∧ k ≤ 67)) : ¬ pRw b k := fun z => by
  have := pR_13 b
  unfold pRw at z
  omega
theorem pRw_m (b : Bool) : ∀ k, k = pR7 (!b) ∨ k = pR8 (!b) ∨ k = pR9 (!b) ∨ k = pR10 (!b) ∨ k = pR13 (!b) ∨ k = pR14 (!b) ∨ k = pR15 (!b) ∨ k = pR18 (!b) → ¬ ((5 ≤ k ∧ k ≤ 11) ∨ k = 38 ∨ (41 ≤ k ∧ k ≤ 43) ∨ k = 51 ∨ pRw b k) := by
  cases b
  · intro k h z
    unfold pRw at z
    have e : (pR5 false = 44 ∧ pR6 false = 45 ∧ pR7 false = 46 ∧ pR8 false = 47 ∧ pR9 false = 48 ∧ pR10 false = 49 ∧ pR13 false = 69 ∧ pR14 false = 70 ∧ pR15 false = 71 ∧ pR16 false = 72 ∧ pR17 false = 73 ∧ pR18 false = 74) ∨ (pR5 false = 52 ∧ pR6 false = 53 ∧ pR7 false = 54 ∧ pR8 false = 55 ∧ pR9 false = 56 ∧ pR10 false = 57 ∧ pR13 false = 58 ∧ pR14 false = 59 ∧ pR15 false = 60 ∧ pR16 false = 61 ∧ pR17 false = 62 ∧ pR18 false = 63) := by decide
    have e' : pR7 (!false) = pR7 true ∧ pR8 (!false) = pR8 true ∧ pR9 (!false) = pR9 true ∧ pR10 (!false) = pR10 true ∧ pR13 (!false) = pR13 true ∧ pR14 (!false) = pR14 true ∧ pR15 (!false) = pR15 true ∧ pR18 (!false) = pR18 true := by decide
    have d : pR7 false ≠ pR7 true := by decide
    have e2 : (pR7 true = 46 ∧ pR8 true = 47 ∧ pR9 true = 48 ∧ pR10 true = 49 ∧ pR13 true = 69 ∧ pR14 true = 70 ∧ pR15 true = 71 ∧ pR18 true = 74) ∨ (pR7 true = 54 ∧ pR8 true = 55 ∧ pR9 true = 56 ∧ pR10 true = 57 ∧ pR13 true = 58 ∧ pR14 true = 59 ∧ pR15 true = 60 ∧ pR18 true = 63) := by decide
    omega
  · intro k h z
    unfold pRw at z
    have e : (pR5 true = 44 ∧ pR6 true = 45 ∧ pR7 true = 46 ∧ pR8 true = 47 ∧ pR9 true = 48 ∧ pR10 true = 49 ∧ pR13 true = 69 ∧ pR14 true = 70 ∧ pR15 true = 71 ∧ pR16 true = 72 ∧ pR17 true = 73 ∧ pR18 true = 74) ∨ (pR5 true = 52 ∧ pR6 true = 53 ∧ pR7 true = 54 ∧ pR8 true = 55 ∧ pR9 true = 56 ∧ pR10 true = 57 ∧ pR13 true = 58 ∧ pR14 true = 59 ∧ pR15 true = 60 ∧ pR16 true = 61 ∧ pR17 true = 62 ∧ pR18 true = 63) := by decide
    have e' : pR7 (!true) = pR7 false ∧ pR8 (!true) = pR8 false ∧ pR9 (!true) = pR9 false ∧ pR10 (!true) = pR10 false ∧ pR13 (!true) = pR13 false ∧ pR14 (!true) = pR14 false ∧ pR15 (!true) = pR15 false ∧ pR18 (!true) = pR18 false := by decide
    have d : pR7 false ≠ pR7 true := by decide
    have e2 : (pR7 false = 46 ∧ pR8 false = 47 ∧ pR9 false = 48 ∧ pR10 false = 49 ∧ pR13 false = 69 ∧ pR14 false = 70 ∧ pR15 false = 71 ∧ pR18 false = 74) ∨ (pR7 false = 54 ∧ pR8 false = 55 ∧ pR9 false = 56 ∧ pR10 false = 57 ∧ pR13 false = 58 ∧ pR14 false = 59 ∧ pR15 false = 60 ∧ pR18 false = 63) := by decide
    omega
theorem pR56_m (b : Bool) : ¬ (pR5 (!b) = pR5 b ∨ pR5 (!b) = pR6 b) ∧ ¬ (pR6 (!b) = pR5 b ∨ pR6 (!b) = pR6 b) ∧ ¬ (39 = pR5 b ∨ 39 = pR6 b) := by cases b <;> decide
theorem PgFr_m (h : PgFr b σ s) : PFm σ s := by
  obtain ⟨⟨h1, h2⟩, ⟨h3, h4, h5⟩, h6, h7⟩ := h
  obtain ⟨B, hB, fB, fB'⟩ := fP_B b
  have g1 := fB 1
  have g19 := fB 19
  refine ⟨⟨fun j hj n4 => h1 j (by omega), fun j hj => h2 j (by omega)⟩, fun k hk => ⟨h3 k (fun z => ?_), h4 k (by omega)⟩, h7⟩
  have w := pRw_n b (k := k) (by omega)
  rcases z with z | z | z | z | z
  · omega
  · omega
  · omega
  · omega
  · exact w z
/-- fields of the other program -/
theorem PgFr_f (h : PgFr b σ s) {i : Nat} (hi : 1 ≤ i ∧ i ≤ 19) : s.1 (fP (!b) i) = σ.1 (fP (!b) i) := by
  obtain ⟨B, hB, fB, fB'⟩ := fP_B b
  have g1 := fB 1
  have g19 := fB 19
  have g := fB' i
  exact h.1.1 _ (by omega)
/-- the program that stands is left alone -/
theorem PgFr_pg (h : PgFr b σ s) (hc : ∀ i, i < sz → cdr (!b) s i = cdr (!b) σ i) (p : PgI gl pr (!b) sz V c σ) : PgI gl pr (!b) sz V c s := by
  obtain ⟨E, nu, vg, e0, MD, e, ⟨tb, de⟩, ⟨ut, r18⟩, pg, ⟨eN, cd⟩, ⟨en1, en2, en3⟩, vw⟩ := p
  have rm := pRw_m b
  have m5 := pR56_m b
  have rr : ∀ k, k = pR7 (!b) ∨ k = pR8 (!b) ∨ k = pR9 (!b) ∨ k = pR10 (!b) ∨ k = pR13 (!b) ∨ k = pR14 (!b) ∨ k = pR15 (!b) ∨ k = pR18 (!b) → s.2.2.1 k = σ.2.2.1 k := fun k hk => h.2.1.1 k (rm k hk)
  have e64 : s.2.2.1 64 = σ.2.2.1 64 := h.2.1.1 64 (fun z => by
    have w := pRw_n b (k := 64) (by omega)
    rcases z with z | z | z | z | z
    · omega
    · omega
    · omega
    · omega
    · exact w z)
  refine ⟨E, nu, vg, e0, MD, e, ⟨TbR_s tb (PgFr_f h (by omega)) (h.2.1.2.2 _ m5.1) (h.2.1.2.2 _ m5.2.1) (rr _ (by simp)) (rr _ (by simp)) (rr _ (by simp)) (rr _ (by simp)), de⟩, ⟨fun i hi => ?_, by rw [rr (pR18 (!b)) (by simp)]; exact r18⟩, pg, ⟨eN, fun i hi => (hc i hi).trans (cd i hi)⟩, ⟨(PgFr_f h (by omega)).trans en1, en2, en3⟩, fun i hi => by rw [e64]; exact vw i hi⟩
  rw [rr (pR13 (!b)) (by simp), rr (pR14 (!b)) (by simp), rr (pR18 (!b)) (by simp), rr (pR15 (!b)) (by simp)]
  exact ut i hi
theorem PgFr_ct (h : PgFr b σ s) : CtX (cM c (!b) σ) (cM c (!b) s) := by
  have rm := pRw_m b
  refine ⟨?_, ?_, rfl, fun p x e => e⟩
  · show (fun u => uN (s.2.2.1 (pR14 (!b)) u)) = fun u => uN (σ.2.2.1 (pR14 (!b)) u)
    rw [h.2.1.1 (pR14 (!b)) (rm _ (by simp))]
  · show (fun u => uN (s.2.2.1 (pR18 (!b)) u)) = fun u => uN (σ.2.2.1 (pR18 (!b)) u)
    rw [h.2.1.1 (pR18 (!b)) (rm _ (by simp))]
theorem PgFr_of (a : EB b sz σ σ1) (d : RdK b sz σ1 σ2) (f1 : ∀ j, ¬ (j = 3701 ∨ (7510 ≤ j ∧ j ≤ 7513)) → s.1 j = σ2.1 j) (f2 : s.2.1 = σ2.2.1) (f3 : s.2.2.1 = σ2.2.2.1) (f4 : s.2.2.2.1 = σ2.2.2.2.1) (f5 : sN s = sN σ2) (f6 : sPr s = sPr σ2) (f7 : s.2.2.2.2.2.2 = σ2.2.2.2.2.2.2) : PgFr b σ s := by
  obtain ⟨⟨a1, a2, a3⟩, ⟨a4, a5, a6⟩, ⟨a7, a8⟩, ⟨⟨a9, a10, a11⟩, a12, a13⟩⟩ := a
  obtain ⟨⟨d1, d2⟩, ⟨d3, d4, d5⟩, ⟨⟨d6, d7, d8⟩, d9, d10⟩, d11, d12, d13, d14, d15⟩ := d
  refine ⟨⟨fun j hj => ?_, fun j hj => ?_⟩, ⟨fun k hk => ?_, fun k hk => ?_, fun k hk => ?_⟩, ?_, ?_⟩
  · exact (f1 j (by omega)).trans ((d1 j (by omega)).trans (a1 j (by omega)))
  · rw [f2, d2 j hj, a3]
  · rw [f3, d3 k hk]
    exact a4 k (fun z => hk (Or.inr (Or.inr (Or.inr (Or.inr (by unfold pRw; omega))))))
  · rw [f5, d4 k hk, a8]
  · rw [f4, d5 k hk, a7]
  · rw [f6, d8, a11]
  · rw [f7, d10, a13]
end DYT
