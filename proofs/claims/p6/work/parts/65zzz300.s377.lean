/-! The class: room is made. -/
section CSO
variable {g g' g2 : Nat → Prop} {l l' l2 : List Nat} {t t' t2 : Nat} {σ σ' σ2 : CS} {L : LV} {x y i : Int32} {M M' U U' : Nat → Int32} {K K' K2 K3 K4 : Nat → Option Int32}
/-- what one row may still cost -/
def pC (σ : CS) (k n : Nat) : Nat := if sN σ k < n then 1 else 0
def pS (σ : CS) (k n : Nat) : Nat := if sN σ k < n then n else 0
/-- the code's rows: each may be made once -/
def cdC (σ : CS) : Nat := pC σ 43 36864 + pC σ 51 36864
def cdS (σ : CS) : Nat := pS σ 43 36864 + pS σ 51 36864
/-- what rows may still cost -/
def PhC (σ : CS) : Nat := pC σ 3 160000 + pC σ 1 5000 + pC σ 2 5000 + pC σ 20 91000 + pC σ 21 44200 + pC σ 22 60000 + pC σ 26 20000 + pC σ 41 21504 + pC σ 42 16384 + pC σ 66 10400 + (tpC (sN σ 38) + cdC σ)
def PhS (σ : CS) : Nat := pS σ 3 160000 + pS σ 1 5000 + pS σ 2 5000 + pS σ 20 91000 + pS σ 21 44200 + pS σ 22 60000 + pS σ 26 20000 + pS σ 41 21504 + pS σ 42 16384 + pS σ 66 10400 + (tpS (sN σ 38) + cdS σ)
theorem Ph_z3 (h : sN σ 3 < 160000) : PhC (uZ σ 3 160000) + 1 ≤ PhC σ ∧ PhS (uZ σ 3 160000) + 160000 ≤ PhS σ := by
  have a1 : pC (uZ σ 3 160000) 3 160000 = 0 := if_neg (Nat.lt_irrefl 160000)
  have a2 : pS (uZ σ 3 160000) 3 160000 = 0 := if_neg (Nat.lt_irrefl 160000)
  have b1 : pC σ 3 160000 = 1 := if_pos h
  have b2 : pS σ 3 160000 = 160000 := if_pos h
  unfold PhC PhS
  show (pC (uZ σ 3 160000) 3 160000 + pC σ 1 5000 + pC σ 2 5000 + pC σ 20 91000 + pC σ 21 44200 + pC σ 22 60000 + pC σ 26 20000 + pC σ 41 21504 + pC σ 42 16384 + pC σ 66 10400 + (tpC (sN σ 38) + cdC σ)) + 1 ≤ _ ∧ (pS (uZ σ 3 160000) 3 160000 + pS σ 1 5000 + pS σ 2 5000 + pS σ 20 91000 + pS σ 21 44200 + pS σ 22 60000 + pS σ 26 20000 + pS σ 41 21504 + pS σ 42 16384 + pS σ 66 10400 + (tpS (sN σ 38) + cdS σ)) + 160000 ≤ _
  rw [a1, a2, b1, b2]
  omega
theorem Ph_z1 (h : sN σ 1 < 5000) : PhC (uZ σ 1 5000) + 1 ≤ PhC σ ∧ PhS (uZ σ 1 5000) + 5000 ≤ PhS σ := by
  have a1 : pC (uZ σ 1 5000) 1 5000 = 0 := if_neg (Nat.lt_irrefl 5000)
  have a2 : pS (uZ σ 1 5000) 1 5000 = 0 := if_neg (Nat.lt_irrefl 5000)
  have b1 : pC σ 1 5000 = 1 := if_pos h
  have b2 : pS σ 1 5000 = 5000 := if_pos h
  unfold PhC PhS
  show (pC σ 3 160000 + pC (uZ σ 1 5000) 1 5000 + pC σ 2 5000 + pC σ 20 91000 + pC σ 21 44200 + pC σ 22 60000 + pC σ 26 20000 + pC σ 41 21504 + pC σ 42 16384 + pC σ 66 10400 + (tpC (sN σ 38) + cdC σ)) + 1 ≤ _ ∧ (pS σ 3 160000 + pS (uZ σ 1 5000) 1 5000 + pS σ 2 5000 + pS σ 20 91000 + pS σ 21 44200 + pS σ 22 60000 + pS σ 26 20000 + pS σ 41 21504 + pS σ 42 16384 + pS σ 66 10400 + (tpS (sN σ 38) + cdS σ)) + 5000 ≤ _
  rw [a1, a2, b1, b2]
  omega
theorem Ph_z2 (h : sN σ 2 < 5000) : PhC (uZ σ 2 5000) + 1 ≤ PhC σ ∧ PhS (uZ σ 2 5000) + 5000 ≤ PhS σ := by
  have a1 : pC (uZ σ 2 5000) 2 5000 = 0 := if_neg (Nat.lt_irrefl 5000)
  have a2 : pS (uZ σ 2 5000) 2 5000 = 0 := if_neg (Nat.lt_irrefl 5000)
  have b1 : pC σ 2 5000 = 1 := if_pos h
  have b2 : pS σ 2 5000 = 5000 := if_pos h
  unfold PhC PhS
  show (pC σ 3 160000 + pC σ 1 5000 + pC (uZ σ 2 5000) 2 5000 + pC σ 20 91000 + pC σ 21 44200 + pC σ 22 60000 + pC σ 26 20000 + pC σ 41 21504 + pC σ 42 16384 + pC σ 66 10400 + (tpC (sN σ 38) + cdC σ)) + 1 ≤ _ ∧ (pS σ 3 160000 + pS σ 1 5000 + pS (uZ σ 2 5000) 2 5000 + pS σ 20 91000 + pS σ 21 44200 + pS σ 22 60000 + pS σ 26 20000 + pS σ 41 21504 + pS σ 42 16384 + pS σ 66 10400 + (tpS (sN σ 38) + cdS σ)) + 5000 ≤ _
  rw [a1, a2, b1, b2]
  omega
theorem Ph_z20 (h : sN σ 20 < 91000) : PhC (uZ σ 20 91000) + 1 ≤ PhC σ ∧ PhS (uZ σ 20 91000) + 91000 ≤ PhS σ := by
  have a1 : pC (uZ σ 20 91000) 20 91000 = 0 := if_neg (Nat.lt_irrefl 91000)
  have a2 : pS (uZ σ 20 91000) 20 91000 = 0 := if_neg (Nat.lt_irrefl 91000)
  have b1 : pC σ 20 91000 = 1 := if_pos h
  have b2 : pS σ 20 91000 = 91000 := if_pos h
  unfold PhC PhS
  show (pC σ 3 160000 + pC σ 1 5000 + pC σ 2 5000 + pC (uZ σ 20 91000) 20 91000 + pC σ 21 44200 + pC σ 22 60000 + pC σ 26 20000 + pC σ 41 21504 + pC σ 42 16384 + pC σ 66 10400 + (tpC (sN σ 38) + cdC σ)) + 1 ≤ _ ∧ (pS σ 3 160000 + pS σ 1 5000 + pS σ 2 5000 + pS (uZ σ 20 91000) 20 91000 + pS σ 21 44200 + pS σ 22 60000 + pS σ 26 20000 + pS σ 41 21504 + pS σ 42 16384 + pS σ 66 10400 + (tpS (sN σ 38) + cdS σ)) + 91000 ≤ _
  rw [a1, a2, b1, b2]
  omega
theorem Ph_z21 (h : sN σ 21 < 44200) : PhC (uZ σ 21 44200) + 1 ≤ PhC σ ∧ PhS (uZ σ 21 44200) + 44200 ≤ PhS σ := by
  have a1 : pC (uZ σ 21 44200) 21 44200 = 0 := if_neg (Nat.lt_irrefl 44200)
  have a2 : pS (uZ σ 21 44200) 21 44200 = 0 := if_neg (Nat.lt_irrefl 44200)
  have b1 : pC σ 21 44200 = 1 := if_pos h
  have b2 : pS σ 21 44200 = 44200 := if_pos h
  unfold PhC PhS
  show (pC σ 3 160000 + pC σ 1 5000 + pC σ 2 5000 + pC σ 20 91000 + pC (uZ σ 21 44200) 21 44200 + pC σ 22 60000 + pC σ 26 20000 + pC σ 41 21504 + pC σ 42 16384 + pC σ 66 10400 + (tpC (sN σ 38) + cdC σ)) + 1 ≤ _ ∧ (pS σ 3 160000 + pS σ 1 5000 + pS σ 2 5000 + pS σ 20 91000 + pS (uZ σ 21 44200) 21 44200 + pS σ 22 60000 + pS σ 26 20000 + pS σ 41 21504 + pS σ 42 16384 + pS σ 66 10400 + (tpS (sN σ 38) + cdS σ)) + 44200 ≤ _
  rw [a1, a2, b1, b2]
  omega
theorem Ph_z22 (h : sN σ 22 < 60000) : PhC (uZ σ 22 60000) + 1 ≤ PhC σ ∧ PhS (uZ σ 22 60000) + 60000 ≤ PhS σ := by
  have a1 : pC (uZ σ 22 60000) 22 60000 = 0 := if_neg (Nat.lt_irrefl 60000)
  have a2 : pS (uZ σ 22 60000) 22 60000 = 0 := if_neg (Nat.lt_irrefl 60000)
  have b1 : pC σ 22 60000 = 1 := if_pos h
  have b2 : pS σ 22 60000 = 60000 := if_pos h
  unfold PhC PhS
  show (pC σ 3 160000 + pC σ 1 5000 + pC σ 2 5000 + pC σ 20 91000 + pC σ 21 44200 + pC (uZ σ 22 60000) 22 60000 + pC σ 26 20000 + pC σ 41 21504 + pC σ 42 16384 + pC σ 66 10400 + (tpC (sN σ 38) + cdC σ)) + 1 ≤ _ ∧ (pS σ 3 160000 + pS σ 1 5000 + pS σ 2 5000 + pS σ 20 91000 + pS σ 21 44200 + pS (uZ σ 22 60000) 22 60000 + pS σ 26 20000 + pS σ 41 21504 + pS σ 42 16384 + pS σ 66 10400 + (tpS (sN σ 38) + cdS σ)) + 60000 ≤ _
  rw [a1, a2, b1, b2]
  omega
theorem Ph_z26 (h : sN σ 26 < 20000) : PhC (uZ σ 26 20000) + 1 ≤ PhC σ ∧ PhS (uZ σ 26 20000) + 20000 ≤ PhS σ := by
  have a1 : pC (uZ σ 26 20000) 26 20000 = 0 := if_neg (Nat.lt_irrefl 20000)
  have a2 : pS (uZ σ 26 20000) 26 20000 = 0 := if_neg (Nat.lt_irrefl 20000)
  have b1 : pC σ 26 20000 = 1 := if_pos h
  have b2 : pS σ 26 20000 = 20000 := if_pos h
  unfold PhC PhS
  show (pC σ 3 160000 + pC σ 1 5000 + pC σ 2 5000 + pC σ 20 91000 + pC σ 21 44200 + pC σ 22 60000 + pC (uZ σ 26 20000) 26 20000 + pC σ 41 21504 + pC σ 42 16384 + pC σ 66 10400 + (tpC (sN σ 38) + cdC σ)) + 1 ≤ _ ∧ (pS σ 3 160000 + pS σ 1 5000 + pS σ 2 5000 + pS σ 20 91000 + pS σ 21 44200 + pS σ 22 60000 + pS (uZ σ 26 20000) 26 20000 + pS σ 41 21504 + pS σ 42 16384 + pS σ 66 10400 + (tpS (sN σ 38) + cdS σ)) + 20000 ≤ _
  rw [a1, a2, b1, b2]
  omega
theorem Ph_z41 (h : sN σ 41 < 21504) : PhC (uZ σ 41 21504) + 1 ≤ PhC σ ∧ PhS (uZ σ 41 21504) + 21504 ≤ PhS σ := by
  have a1 : pC (uZ σ 41 21504) 41 21504 = 0 := if_neg (Nat.lt_irrefl 21504)
  have a2 : pS (uZ σ 41 21504) 41 21504 = 0 := if_neg (Nat.lt_irrefl 21504)
  have b1 : pC σ 41 21504 = 1 := if_pos h
  have b2 : pS σ 41 21504 = 21504 := if_pos h
  unfold PhC PhS
  show (pC σ 3 160000 + pC σ 1 5000 + pC σ 2 5000 + pC σ 20 91000 + pC σ 21 44200 + pC σ 22 60000 + pC σ 26 20000 + pC (uZ σ 41 21504) 41 21504 + pC σ 42 16384 + pC σ 66 10400 + (tpC (sN σ 38) + cdC σ)) + 1 ≤ _ ∧ (pS σ 3 160000 + pS σ 1 5000 + pS σ 2 5000 + pS σ 20 91000 + pS σ 21 44200 + pS σ 22 60000 + pS σ 26 20000 + pS (uZ σ 41 21504) 41 21504 + pS σ 42 16384 + pS σ 66 10400 + (tpS (sN σ 38) + cdS σ)) + 21504 ≤ _
  rw [a1, a2, b1, b2]
  omega
theorem Ph_z42 (h : sN σ 42 < 16384) : PhC (uZ σ 42 16384) + 1 ≤ PhC σ ∧ PhS (uZ σ 42 16384) + 16384 ≤ PhS σ := by
  have a1 : pC (uZ σ 42 16384) 42 16384 = 0 := if_neg (Nat.lt_irrefl 16384)
  have a2 : pS (uZ σ 42 16384) 42 16384 = 0 := if_neg (Nat.lt_irrefl 16384)
  have b1 : pC σ 42 16384 = 1 := if_pos h
  have b2 : pS σ 42 16384 = 16384 := if_pos h
  unfold PhC PhS
  show (pC σ 3 160000 + pC σ 1 5000 + pC σ 2 5000 + pC σ 20 91000 + pC σ 21 44200 + pC σ 22 60000 + pC σ 26 20000 + pC σ 41 21504 + pC (uZ σ 42 16384) 42 16384 + pC σ 66 10400 + (tpC (sN σ 38) + cdC σ)) + 1 ≤ _ ∧ (pS σ 3 160000 + pS σ 1 5000 + pS σ 2 5000 + pS σ 20 91000 + pS σ 21 44200 + pS σ 22 60000 + pS σ 26 20000 + pS σ 41 21504 + pS (uZ σ 42 16384) 42 16384 + pS σ 66 10400 + (tpS (sN σ 38) + cdS σ)) + 16384 ≤ _
  rw [a1, a2, b1, b2]
  omega
theorem Ph_z66 (h : sN σ 66 < 10400) : PhC (uZ σ 66 10400) + 1 ≤ PhC σ ∧ PhS (uZ σ 66 10400) + 10400 ≤ PhS σ := by
  have a1 : pC (uZ σ 66 10400) 66 10400 = 0 := if_neg (Nat.lt_irrefl 10400)
  have a2 : pS (uZ σ 66 10400) 66 10400 = 0 := if_neg (Nat.lt_irrefl 10400)
  have b1 : pC σ 66 10400 = 1 := if_pos h
  have b2 : pS σ 66 10400 = 10400 := if_pos h
  unfold PhC PhS
  show (pC σ 3 160000 + pC σ 1 5000 + pC σ 2 5000 + pC σ 20 91000 + pC σ 21 44200 + pC σ 22 60000 + pC σ 26 20000 + pC σ 41 21504 + pC σ 42 16384 + pC (uZ σ 66 10400) 66 10400 + (tpC (sN σ 38) + cdC σ)) + 1 ≤ _ ∧ (pS σ 3 160000 + pS σ 1 5000 + pS σ 2 5000 + pS σ 20 91000 + pS σ 21 44200 + pS σ 22 60000 + pS σ 26 20000 + pS σ 41 21504 + pS σ 42 16384 + pS (uZ σ 66 10400) 66 10400 + (tpS (sN σ 38) + cdS σ)) + 10400 ≤ _
  rw [a1, a2, b1, b2]
  omega
/-- what a call costs, out of that -/
def CoP (σ : CS) (r : RS) : Prop := r.2.2.1 + PhC r.2.1 ≤ PhC σ ∧ r.2.2.2 + PhS r.2.1 ≤ PhS σ
theorem CoP_t {r q : RS} (a : CoP σ r) (b : CoP r.2.1 q) : CoP σ (q.1, q.2.1, (r.2.2.1 + q.2.2.1, r.2.2.2 + q.2.2.2)) := by
  have a1 := a.1
  have a2 := a.2
  have b1 := b.1
  have b2 := b.2
  exact ⟨by show r.2.2.1 + q.2.2.1 + PhC q.2.1 ≤ PhC σ; omega, by show r.2.2.2 + q.2.2.2 + PhS q.2.1 ≤ PhS σ; omega⟩
theorem Ph_s (e : σ'.2.2.2.2.1 = σ.2.2.2.2.1) : PhC σ' = PhC σ ∧ PhS σ' = PhS σ := by
  unfold PhC PhS cdC cdS pC pS sN
  rw [e]
  exact ⟨rfl, rfl⟩
theorem CoP_0 {v : Nat × Int32} (e : σ'.2.2.2.2.1 = σ.2.2.2.2.1) : CoP σ (v, σ', (0, 0)) := by
  have q := Ph_s e
  exact ⟨by show 0 + PhC σ' ≤ _; omega, by show 0 + PhS σ' ≤ _; omega⟩
/-- a call that throws nothing, behind it another -/
theorem Tm_oxc {x : Nat → Option RS} {f : Nat → RS → Option RS} {P Q : RS → Prop} (t : Tm x P) (hz : ∀ r, P r → r.1.1 = 0) (h : ∀ r, P r → Tm (fun k => f k r) (fun q => Q (q.1, q.2.1, (r.2.2.1 + q.2.2.1, r.2.2.2 + q.2.2.2)))) : Tm (fun k => ox (x k) (f k)) Q := Tm_ox t (fun r p n => absurd (hz r p) n) (fun r p _ => h r p)
/-- a slot that holds what is gone over -/
def mkR : Int32 := -2147483648
/-- no cell of a whole -/
def NoW (M : Nat → Int32) (x : Int32) : Prop := uN x < 2147483648 → ¬ hdK (uN (M (uN x))) = 2
/-- a place that holds a tuple -/
def mkT : Int32 := -2147483647
def NoT (M : Nat → Int32) (x : Int32) : Prop := uN x < 2147483648 → 5 ≤ hdK (uN (M (uN x)))
/-- a place that may hold a number of the machine's own -/
def mkC : Int32 := -2147483646
/-- what marks say -/
def Mkd (g : Nat → Prop) (M : Nat → Int32) (v x : Int32) : Prop := (v = mkR ∧ Gv g x ∧ NoW M x) ∨ (v = mkT ∧ Gv g x ∧ NoT M x) ∨ v = mkC
/-- values of a row, some of them pinned, some no wholes -/
def Rwk (g : Nat → Prop) (M : Nat → Int32) (K : Nat → Option Int32) (f : Nat → Int32) (n : Nat) : Prop := ∀ j, j < n → Gw g (f j) ∧ (K j = none → Gv g (f j)) ∧ ∀ v, K j = some v → (f j = v ∧ Rr v) ∨ Mkd g M v (f j)
theorem Rwn {x : Int32} (hx : Gv g x) : Gw g x ∧ ((none : Option Int32) = none → Gv g x) ∧ ∀ v, (none : Option Int32) = some v → (x = v ∧ Rr v) ∨ Mkd g M v x := ⟨Or.inl hx, fun _ => hx, fun v e => (by cases e)⟩
theorem Rwp {x : Int32} (hx : Rr x) : Gw g x ∧ (some x = none → Gv g x) ∧ ∀ v, some x = some v → (x = v ∧ Rr v) ∨ Mkd g M v x := ⟨Or.inr hx, fun e => (by cases e), fun v e => (by cases e; exact Or.inl ⟨rfl, hx⟩)⟩
theorem Rwm {x : Int32} (hx : Gv g x) (nw : NoW M x) : Gw g x ∧ (some mkR = none → Gv g x) ∧ ∀ v, some mkR = some v → (x = v ∧ Rr v) ∨ Mkd g M v x := ⟨Or.inl hx, fun e => (by cases e), fun v e => (by cases e; exact Or.inr (Or.inl ⟨rfl, hx, nw⟩))⟩
theorem Rwt {x : Int32} (hx : Gv g x) (nt : NoT M x) : Gw g x ∧ (some mkT = none → Gv g x) ∧ ∀ v, some mkT = some v → (x = v ∧ Rr v) ∨ Mkd g M v x := ⟨Or.inl hx, fun e => (by cases e), fun v e => (by cases e; exact Or.inr (Or.inr (Or.inl ⟨rfl, hx, nt⟩)))⟩
theorem Rwc {x : Int32} (hx : Gw g x) : Gw g x ∧ (some mkC = none → Gv g x) ∧ ∀ v, some mkC = some v → (x = v ∧ Rr v) ∨ Mkd g M v x := ⟨hx, fun e => (by cases e), fun v e => (by cases e; exact Or.inr (Or.inr (Or.inr rfl)))⟩
def KN : Nat → Option Int32 := fun _ => none
/-- how much of the saves' row is in use -/
def usI (σ : CS) : Int32 := if σ.1 2405 = 0 then σ.1 2403 else σ.1 2403 + σ.1 (100 * (28 + sPi σ 8) + 2) + σ.1 (100 * (28 + sPi σ 8) + 13)
/-- the values that the machine holds -/
def VI (g : Nat → Prop) (K K2 K3 K4 : Nat → Option Int32) (σ : CS) : Prop := (uN (σ.1 1902) ≤ sN σ 20 ∧ (1024 ≤ sN σ 20 ∧ sN σ 20 ≤ 91000) ∧ Rwk g (σ.2.2.1 3) K (σ.2.2.1 20) (uN (σ.1 1902))) ∧ Rwk g (σ.2.2.1 3) K4 (σ.2.2.1 23) 3780 ∧ (uN (σ.1 1913) ≤ sN σ 21 ∧ sN σ 21 ≤ 44200 ∧ Rwk g (σ.2.2.1 3) K2 (σ.2.2.1 21) (uN (σ.1 1913))) ∧ Rwk g (σ.2.2.1 3) KN (σ.2.2.1 67) 27 ∧ sPi σ 8 < 9 ∧ uN (usI σ) ≤ sN σ 26 ∧ sN σ 26 ≤ 20000 ∧ Rwk g (σ.2.2.1 3) K3 (σ.2.2.1 26) (uN (usI σ))
theorem c_used (h8 : sPi σ 8 < 9) : Tm (fun k => y_X9_used k 0 L σ) (fun r => r = (usI σ, σ)) := by
  unfold usI
  refine Tm_suc (fun k => by rw [y_X9_used]) ?_
  refine Tm_ite (fun c => ?_) (fun c => ?_)
  · rw [if_pos c]
    refine Tm_suc (fun k => by rw [y_X9_used]) ?_
    refine Tm_suc (fun k => by rw [y_X9_used]) ?_
    exact Tm_some rfl
  · rw [if_neg c]
    refine Tm_chk (by decide) ?_
    refine Tm_chk h8 ?_
    refine Tm_chk (by decide) ?_
    refine Tm_chk h8 ?_
    refine Tm_suc (fun k => by rw [y_X9_used]) ?_
    exact Tm_some rfl
theorem rnm_r (h : 2147483648 ≤ uN x) : rnm U x = x := if_neg (by omega)
theorem Rwk_mv {f f' : Nat → Int32} {n : Nat} (hq : HQ g l t σ) (hb : BI g l (σ.2.2.1 3) U) (h0 : ∀ q, q ∈ l → bI U q = 1 → M' (ctB U q) = σ.2.2.1 3 q) (h3 : ∀ p, p < 3 → M' p = σ.2.2.1 3 p) (h : Rwk g (σ.2.2.1 3) K f n) (hm : ∀ j, j < n → MkV U (f j)) (e : ∀ j, j < n → f' j = rnm U (f j)) : Rwk (gM l U) M' K f' n := by
  intro j hj
  rw [e j hj]
  refine ⟨?_, fun hn => Gv_mv hq hb ((h j hj).2.1 hn) (hm j hj), fun v hv => ?_⟩
  · rcases (h j hj).1 with z | z
    · exact Or.inl (Gv_mv hq hb z (hm j hj))
    · have zr : 4026531840 ≤ uN (f j) := z
      rw [rnm_r (by omega)]
      exact Or.inr z
  rcases (h j hj).2.2 v hv with z | z
  · have zr : 4026531840 ≤ uN v := z.2
    rw [z.1, rnm_r (by omega)]
    exact Or.inl ⟨rfl, z.2⟩
  · refine Or.inr (z.imp (fun z => ⟨z.1, Gv_mv hq hb z.2.1 (hm j hj), fun lt => ?_⟩) (fun z => z.imp (fun z => ⟨z.1, Gv_mv hq hb z.2.1 (hm j hj), fun lt => ?_⟩) id))
    · by_cases d : uN (f j) < 2147483648
      · rw [((hgt_mv hq (h j hj).1 (hm j hj) h0 h3).2 d).2]
        exact z.2.2 d
      · rw [rnm_r (by omega)] at lt
        exact absurd lt d
    · by_cases d : uN (f j) < 2147483648
      · rw [((hgt_mv hq (h j hj).1 (hm j hj) h0 h3).2 d).2]
        exact z.2.2 d
      · rw [rnm_r (by omega)] at lt
        exact absurd lt d
/-- what moving leaves alone -/
def MvF (σ σ' : CS) : Prop := (∀ j, ¬ j = 1 → σ'.1 j = σ.1 j) ∧ σ'.2.1 = σ.2.1 ∧ (∀ k, ¬ (k = 1 ∨ k = 2 ∨ k = 3 ∨ k = 20 ∨ k = 21 ∨ k = 23 ∨ k = 26 ∨ k = 67) → σ'.2.2.1 k = σ.2.2.1 k) ∧ σ'.2.2.2 = σ.2.2.2
theorem MvF_t (a : MvF σ σ') (b : MvF σ' σ2) : MvF σ σ2 := ⟨fun j hj => (b.1 j hj).trans (a.1 j hj), b.2.1.trans a.2.1, fun k hk => (b.2.2.1 k hk).trans (a.2.2.1 k hk), b.2.2.2.trans a.2.2.2⟩
/-- lengths of what the stack holds stay -/
def LnS (σ σ' : CS) : Prop := ∀ j, j < uN (σ.1 1902) → kdC (σ'.2.2.1 3) (σ'.2.2.1 20 j) = kdC (σ.2.2.1 3) (σ.2.2.1 20 j) ∧ (2147483648 ≤ uN (σ.2.2.1 20 j) → σ'.2.2.1 20 j = σ.2.2.1 20 j)
theorem LnS_r (σ : CS) : LnS σ σ := fun _ _ => ⟨rfl, fun _ => rfl⟩
theorem LnS_t (a : LnS σ σ') (e : σ'.1 1902 = σ.1 1902) (b : LnS σ' σ2) : LnS σ σ2 := fun j hj => ⟨(b j (by rw [e]; exact hj)).1.trans (a j hj).1, fun h => ((b j (by rw [e]; exact hj)).2 (by rw [(a j hj).2 h]; exact h)).trans ((a j hj).2 h)⟩
theorem kdC_mv (hq : HQ g l t σ) (hx : Gw g x) (hm : MkV U x) (h0 : ∀ q, q ∈ l → bI U q = 1 → M' (ctB U q) = σ.2.2.1 3 q) (h3 : ∀ p, p < 3 → M' p = σ.2.2.1 3 p) : kdC M' (rnm U x) = kdC (σ.2.2.1 3) x := by
  by_cases d : uN x < 2147483648
  · have z := (hgt_mv hq hx hm h0 h3).2 d
    unfold kdC
    rw [if_pos z.1, if_pos d, z.2]
  · rw [rnm_r (by omega)]
    unfold kdC
    rw [if_neg d, if_neg d]
theorem c_moveAll (h : HQ g l t σ) (v : VI g K K2 K3 K4 σ) : Tm (fun k => y_X3_moveAll k 0 L σ) (fun r => ∃ (g' : Nat → Prop) (l' : List Nat) (t' : Nat), HQ g' l' t' r.2 ∧ VI g' K K2 K3 K4 r.2 ∧ MvF σ r.2 ∧ LnS σ r.2) := by
  obtain ⟨⟨v1, v2, v3⟩, v4, ⟨v5, v6, v7⟩, v8, v9, v10, v11, v12⟩ := v
  have n23 : uN (Int32.ofNat 3780) = 3780 := by decide
  have n67 : uN (Int32.ofNat 27) = 27 := by decide
  refine Tm_suc (fun k => by rw [y_X3_moveAll]) ?_
  refine Tm_oc (c_beginMarking h) (fun r1 q1 => ?_)
  obtain ⟨U0, e1, b0, z0⟩ := q1
  rw [e1]
  refine Tm_oc (c_markRow20 (HQ_f h (k := 1) (by decide) U0) b0 (by show sN σ 20 ≤ _; omega) v1 (fun j hj => (v3 j hj).1)) (fun r2 q2 => ?_)
  obtain ⟨U1, e2, m1, w1⟩ := q2
  rw [e2, uF_f]
  refine Tm_oc (c_markRow23 (HQ_f h (k := 1) (by decide) U1) m1.1 (by decide) (by show uN (Int32.ofNat 3780) ≤ 3780; omega) (fun j hj => (v4 j (by have hj' : j < uN (Int32.ofNat 3780) := hj; omega)).1)) (fun r3 q3 => ?_)
  obtain ⟨U2, e3, m2, w2⟩ := q3
  rw [e3, uF_f]
  refine Tm_oc (c_markRow21 (HQ_f h (k := 1) (by decide) U2) m2.1 (by show sN σ 21 ≤ _; omega) v5 (fun j hj => (v7 j hj).1)) (fun r4 q4 => ?_)
  obtain ⟨U3, e4, m3, w3⟩ := q4
  rw [e4, uF_f]
  refine Tm_oc (c_markRow67 (HQ_f h (k := 1) (by decide) U3) m3.1 (by decide) (by show uN (Int32.ofNat 27) ≤ 27; omega) (fun j hj => (v8 j (by have hj' : j < uN (Int32.ofNat 27) := hj; omega)).1)) (fun r5 q5 => ?_)
  obtain ⟨U4, e5, m4, w4⟩ := q5
  rw [e5, uF_f]
  refine Tm_oc (c_used (σ := uF σ 1 U4) v9) (fun r6 e6 => ?_)
  rw [e6]
  refine Tm_oc (c_markRow26 (HQ_f h (k := 1) (by decide) U4) m4.1 (by show sN σ 26 ≤ _; omega) v10 (fun j hj => (v12 j hj).1)) (fun r7 q7 => ?_)
  obtain ⟨U5, e7, m5, w5⟩ := q7
  rw [e7, uF_f]
  have mm : MkU g l (uF σ 1 U0) U5 := MkU_t (MkU_t (MkU_t (MkU_t m1 m2) m3) m4) m5
  have up : ∀ p, bI U4 p = 1 → bI U5 p = 1 := m5.2.1
  have up3 : ∀ p, bI U3 p = 1 → bI U5 p = 1 := fun p hp => up p (m4.2.1 p hp)
  have up2 : ∀ p, bI U2 p = 1 → bI U5 p = 1 := fun p hp => up3 p (m3.2.1 p hp)
  have up1 : ∀ p, bI U1 p = 1 → bI U5 p = 1 := fun p hp => up2 p (m2.2.1 p hp)
  have bb : BI g l (σ.2.2.1 3) U5 := mm.1
  have cc : ∀ q, q ∈ l → bI U5 q = 1 → ClU (σ.2.2.1 3) U5 q := by
    intro q hq h1
    rcases mm.2.2 q hq h1 with z | z
    · have z1 : bI U0 q = 1 := z
      rw [z0 q hq] at z1
      exact absurd z1 (by decide)
    · exact z
  have iu := in_u h (p := 0) (by have := h.2.1; omega)
  refine Tm_oc (c_endMarking (σ := uF σ 1 U5) iu.2.2.1 (by show sN σ 2 = sN σ 1; rcases h.2.2.1 with z | z <;> omega)) (fun r8 q8 => ?_)
  obtain ⟨B, e8, hB⟩ := q8
  rw [e8]
  have h8 : HQ g l t (uF (uF σ 1 U5) 2 B) := HQ_f (HQ_f h (by decide) U5) (by decide) B
  refine Tm_oc (c_moveRow20 h8 hB (by show sN σ 20 ≤ _; omega) v1 (fun j hj => (v3 j hj).1)) (fun r9 q9 => ?_)
  obtain ⟨f20, e9, a20, c20⟩ := q9
  rw [e9]
  have h9 : HQ g l t (uF (uF (uF σ 1 U5) 2 B) 20 f20) := HQ_f h8 (by decide) f20
  refine Tm_oc (c_moveRow23 h9 hB (by decide) (by show uN (Int32.ofNat 3780) ≤ 3780; omega) (fun j hj => (v4 j (by have hj' : j < uN (Int32.ofNat 3780) := hj; omega)).1)) (fun r10 q10 => ?_)
  obtain ⟨f23, e10, a23, c23⟩ := q10
  rw [e10]
  have h10 : HQ g l t (uF (uF (uF (uF σ 1 U5) 2 B) 20 f20) 23 f23) := HQ_f h9 (by decide) f23
  refine Tm_oc (c_moveRow21 h10 hB (by show sN σ 21 ≤ _; omega) v5 (fun j hj => (v7 j hj).1)) (fun r11 q11 => ?_)
  obtain ⟨f21, e11, a21, c21⟩ := q11
  rw [e11]
  have h11 : HQ g l t (uF (uF (uF (uF (uF σ 1 U5) 2 B) 20 f20) 23 f23) 21 f21) := HQ_f h10 (by decide) f21
  refine Tm_oc (c_moveRow67 h11 hB (by decide) (by show uN (Int32.ofNat 27) ≤ 27; omega) (fun j hj => (v8 j (by have hj' : j < uN (Int32.ofNat 27) := hj; omega)).1)) (fun r12 q12 => ?_)
  obtain ⟨f67, e12, a67, c67⟩ := q12
  rw [e12]
  have h12 : HQ g l t (uF (uF (uF (uF (uF (uF σ 1 U5) 2 B) 20 f20) 23 f23) 21 f21) 67 f67) := HQ_f h11 (by decide) f67
  refine Tm_oc (c_used (σ := uF (uF (uF (uF (uF (uF σ 1 U5) 2 B) 20 f20) 23 f23) 21 f21) 67 f67) v9) (fun r13 e13 => ?_)
  rw [e13]
  refine Tm_oc (c_moveRow26 h12 hB (by show sN σ 26 ≤ _; omega) v10 (fun j hj => (v12 j hj).1)) (fun r14 q14 => ?_)
  obtain ⟨f26, e14, a26, c26⟩ := q14
  rw [e14]
  have h14 : HQ g l t (uF (uF (uF (uF (uF (uF (uF σ 1 U5) 2 B) 20 f20) 23 f23) 21 f21) 67 f67) 26 f26) := HQ_f h12 (by decide) f26
  refine Tm_oc (c_moveCells h14 bb hB) (fun r15 q15 => ?_)
  obtain ⟨Mc, e15a, mv⟩ := q15
  have hh0 : ∀ q, q ∈ l → bI U5 q = 1 → Mc (ctB U5 q) = σ.2.2.1 3 q := by
    intro q h1 h2
    have tl := TlC_ge l 3 h.2.2.2.2.2.1 q h1
    have z := mv.1 q h1 (by omega) h2 0 (Nat.zero_le _)
    rw [Nat.add_zero] at z
    exact z.trans (if_pos (Or.inl rfl))
  have e15 : r15.2 = hpC (uF (uF (uF (uF (uF (uF (uF σ 1 U5) 2 B) 20 f20) 23 f23) 21 f21) 67 f67) 26 f26) (ctB U5 t) Mc := e15a
  refine Tm_some ⟨gM l U5, lsM U5 l, ctB U5 t, ?_, ?_, ?_, ?_⟩
  · show HQ (gM l U5) (lsM U5 l) (ctB U5 t) r15.2
    rw [e15]
    exact HQ_mv h14 bb cc mv rfl rfl rfl
  · show VI (gM l U5) K K2 K3 K4 r15.2
    rw [e15]
    have us : usI (hpC (uF (uF (uF (uF (uF (uF (uF σ 1 U5) 2 B) 20 f20) 23 f23) 21 f21) 67 f67) 26 f26) (ctB U5 t) Mc) = usI σ := by
      unfold usI
      show (if upd σ.1 1 (nI (ctB U5 t)) 2405 = 0 then upd σ.1 1 (nI (ctB U5 t)) 2403 else upd σ.1 1 (nI (ctB U5 t)) 2403 + upd σ.1 1 (nI (ctB U5 t)) (100 * (28 + sPi σ 8) + 2) + upd σ.1 1 (nI (ctB U5 t)) (100 * (28 + sPi σ 8) + 13)) = _
      rw [upd_other (by decide), upd_other (by decide), upd_other (by omega), upd_other (by omega)]
    refine ⟨⟨v1, v2, ?_⟩, ?_, ⟨v5, v6, ?_⟩, ?_, v9, ?_, v11, ?_⟩
    · exact Rwk_mv h bb hh0 mv.2 v3 (fun j hj p q => up1 _ (w1 j hj p q)) a20
    · exact Rwk_mv h bb hh0 mv.2 v4 (fun j hj p q => up2 _ (w2 j (by show j < uN (Int32.ofNat 3780); omega) p q)) (fun j hj => a23 j (by show j < uN (Int32.ofNat 3780); omega))
    · exact Rwk_mv h bb hh0 mv.2 v7 (fun j hj p q => up3 _ (w3 j hj p q)) a21
    · exact Rwk_mv h bb hh0 mv.2 v8 (fun j hj p q => up _ (w4 j (by show j < uN (Int32.ofNat 27); omega) p q)) (fun j hj => a67 j (by show j < uN (Int32.ofNat 27); omega))
    · rw [us]; exact v10
    · rw [us]; exact Rwk_mv h bb hh0 mv.2 v12 (fun j hj p q => w5 j hj p q) a26
  · show MvF σ r15.2
    rw [e15]
    refine ⟨fun j hj => upd_other hj, rfl, fun k hk => ?_, rfl⟩
    show updG (updG (updG (updG (updG (updG (updG (updG σ.2.2.1 1 U5) 2 B) 20 f20) 23 f23) 21 f21) 67 f67) 26 f26) 3 Mc k = _
    rw [updG_other (by omega), updG_other (by omega), updG_other (by omega), updG_other (by omega), updG_other (by omega), updG_other (by omega), updG_other (by omega), updG_other (by omega)]
  · show LnS σ r15.2
    rw [e15]
    intro j hj
    show kdC Mc (f20 j) = _ ∧ (_ → f20 j = _)
    rw [show f20 j = rnm U5 (σ.2.2.1 20 j) from a20 j hj]
    refine ⟨kdC_mv h (v3 j hj).1 (fun p q => up1 _ (w1 j hj p q)) (fun q h1 h2 => ?_) mv.2, fun hr => rnm_r hr⟩
    have tl := TlC_ge l 3 h.2.2.2.2.2.1 q h1
    have z := mv.1 q h1 (by omega) h2 0 (Nat.zero_le _)
    rw [Nat.add_zero] at z
    exact z.trans (if_pos (Or.inl rfl))
/-- rows of the heap are made longer -/
theorem TlC_eq (hM : ∀ p, p < t → M' p = M p) : ∀ (l : List Nat) (a : Nat), TlC M t a l → TlC M' t a l
  | [], a, h => h
  | q :: l, a, h => by
    obtain ⟨h1, h2, h3, h4⟩ := h
    have e := hM q (by omega)
    refine ⟨h1, ?_, ?_, ?_⟩
    · rw [e]; exact h2
    · rw [e]; exact h3
    · rw [e]; exact TlC_eq hM l _ h4
theorem HQ_wd (h : HQ g l t σ) (e1 : σ'.1 1 = σ.1 1) (hM : ∀ p, p < t → σ'.2.2.1 3 p = σ.2.2.1 3 p) (n : sN σ' 3 = 160000 ∧ sN σ' 1 = 5000 ∧ sN σ' 2 = 5000) : HQ g l t σ' := by
  have a := h.2.1
  have b := HQ_n h
  refine ⟨e1.trans h.1, by omega, Or.inr n, h.2.2.2.1, ?_, TlC_eq hM l 3 h.2.2.2.2.2.1, fun p hp => ⟨(h.2.2.2.2.2.2 p hp).1, CGo_ext hM (fun _ z => z) (fun q hq => (HQ_c h hq).1) (Nat.le_refl _) (h.2.2.2.2.2.2 p hp).2⟩⟩
  rw [hM 0 (by omega), hM 1 (by omega), hM 2 (by omega)]
  exact h.2.2.2.2.1
/-- what the heap's growing leaves alone -/
def WdF (σ σ' : CS) : Prop := σ'.1 = σ.1 ∧ σ'.2.1 = σ.2.1 ∧ (∀ k, ¬ (k = 1 ∨ k = 2 ∨ k = 3) → σ'.2.2.1 k = σ.2.2.1 k ∧ sN σ' k = sN σ k) ∧ σ'.2.2.2.1 = σ.2.2.2.1 ∧ σ'.2.2.2.2.2 = σ.2.2.2.2.2
theorem c_widenH (h : HQ g l t σ) : Tm (fun k => f_X1_widen k 0 L σ) (fun r => r.1 = (0, 0) ∧ CoP σ r ∧ HQ g l t r.2.1 ∧ WdF σ r.2.1 ∧ ∀ p, p < t → r.2.1.2.2.1 3 p = σ.2.2.1 3 p) := by
  have nn := HQ_n h
  have tt := h.2.1
  have wr : WdF σ σ := ⟨rfl, rfl, fun _ _ => ⟨rfl, rfl⟩, rfl, rfl⟩
  have b1 : ∀ (L' : LV) (σ' : CS), HQ g l t σ' → WdF σ σ' → Tm (fun k => f_X1_widen k 1 L' σ') (fun r => r = ((0, 0), σ', (0, 0))) := by
    intro L' σ' _ _
    refine Tm_suc (fun k => by rw [f_X1_widen]) ?_
    exact Tm_some rfl
  refine Tm_suc (fun k => by rw [f_X1_widen]) ?_
  refine Tm_no (by decide) ?_
  refine Tm_ite (fun _ => ?_) (fun _ => ?_)
  · refine Tm_mono (b1 _ _ h wr) (fun r e => ?_)
    rw [e]
    exact ⟨rfl, CoP_0 rfl, h, wr, fun _ _ => rfl⟩
  refine Tm_chk ⟨by decide, by decide, by omega⟩ ?_
  rcases h.2.2.1 with z | z
  · -- the first rows
    refine Tm_yes ⟨by rw [z.1]; decide, by rw [z.1]; decide⟩ ?_
    refine Tm_adR ?_
    have s1 : sN (uZ σ 3 (160000 : Int32).toNatClampNeg) 1 = 512 := z.2.1
    have s2 : sN (uZ (uZ σ 3 (160000 : Int32).toNatClampNeg) 1 (5000 : Int32).toNatClampNeg) 2 = 512 := z.2.2
    refine Tm_suc (fun k => by rw [f_X1_widen]) ?_
    refine Tm_chk ⟨by decide, by decide, by rw [s1]; decide⟩ ?_
    refine Tm_yes ⟨by rw [s1]; decide, by rw [s1]; decide⟩ ?_
    refine Tm_adR ?_
    refine Tm_suc (fun k => by rw [f_X1_widen]) ?_
    refine Tm_chk ⟨by decide, by decide, by rw [s2]; decide⟩ ?_
    refine Tm_yes ⟨by rw [s2]; decide, by rw [s2]; decide⟩ ?_
    refine Tm_adR ?_
    have hm : ∀ p, p < t → (if p < sN σ 3 then σ.2.2.1 3 p else 0) = σ.2.2.1 3 p := fun p hp => if_pos (by omega)
    have hf : HQ g l t (uZ (uZ (uZ σ 3 160000) 1 5000) 2 5000) := HQ_wd h rfl hm ⟨rfl, rfl, rfl⟩
    have wf : WdF σ (uZ (uZ (uZ σ 3 160000) 1 5000) 2 5000) := by
      refine ⟨rfl, rfl, fun k hk => ⟨?_, ?_⟩, rfl, rfl⟩
      · show updG (updG (updG σ.2.2.1 3 _) 1 _) 2 _ k = _
        rw [updG_other (by omega), updG_other (by omega), updG_other (by omega)]
      · show (if k = 2 then 5000 else if k = 1 then 5000 else if k = 3 then 160000 else sN σ k) = _
        rw [if_neg (by omega), if_neg (by omega), if_neg (by omega)]
    have c1 := Ph_z3 (σ := σ) (by rw [z.1]; decide)
    have c2 := Ph_z1 (σ := uZ σ 3 160000) (by show sN σ 1 < 5000; rw [z.2.1]; decide)
    have c3 := Ph_z2 (σ := uZ (uZ σ 3 160000) 1 5000) (by show sN σ 2 < 5000; rw [z.2.2]; decide)
    refine Tm_mono (b1 _ _ hf wf) (fun r e => ?_)
    rw [e]
    refine ⟨rfl, ⟨?_, ?_⟩, hf, wf, hm⟩
    · show 1 + (1 + (1 + 0)) + PhC (uZ (uZ (uZ σ 3 160000) 1 5000) 2 5000) ≤ PhC σ
      omega
    · show 160000 + (5000 + (5000 + 0)) + PhS (uZ (uZ (uZ σ 3 160000) 1 5000) 2 5000) ≤ PhS σ
      omega
  · refine Tm_no (by intro q; rw [z.1] at q; exact absurd q.2 (by decide)) ?_
    refine Tm_suc (fun k => by rw [f_X1_widen]) ?_
    refine Tm_chk ⟨by decide, by decide, by omega⟩ ?_
    refine Tm_no (by intro q; rw [z.2.1] at q; exact absurd q.2 (by decide)) ?_
    refine Tm_suc (fun k => by rw [f_X1_widen]) ?_
    refine Tm_chk ⟨by decide, by decide, by omega⟩ ?_
    refine Tm_no (by intro q; rw [z.2.2] at q; exact absurd q.2 (by decide)) ?_
    refine Tm_mono (b1 _ _ h wr) (fun r e => ?_)
    rw [e]
    exact ⟨rfl, CoP_0 rfl, h, wr, fun _ _ => rfl⟩
theorem c_isTight : Tm (fun k => y_X1_isTight k 0 L σ) (fun r => r.2 = σ ∧ (r.1 = 0 ∨ r.1 = 1)) := by
  refine Tm_suc (fun k => by rw [y_X1_isTight]) ?_
  refine Tm_ite (fun _ => ?_) (fun _ => ?_)
  · refine Tm_suc (fun k => by rw [y_X1_isTight]) ?_
    refine Tm_suc (fun k => by rw [y_X1_isTight]) ?_
    refine Tm_chk (Or.inl rfl) ?_
    exact Tm_some ⟨rfl, Or.inl rfl⟩
  · refine Tm_suc (fun k => by rw [y_X1_isTight]) ?_
    refine Tm_chk (Or.inr rfl) ?_
    exact Tm_some ⟨rfl, Or.inr rfl⟩
theorem c_isScarce : Tm (fun k => y_X1_isScarce k 0 L σ) (fun r => r.2 = σ ∧ (r.1 = 0 ∨ r.1 = 1)) := by
  refine Tm_suc (fun k => by rw [y_X1_isScarce]) ?_
  refine Tm_no (by decide) ?_
  refine Tm_ite (fun _ => ?_) (fun _ => ?_)
  · refine Tm_suc (fun k => by rw [y_X1_isScarce]) ?_
    refine Tm_suc (fun k => by rw [y_X1_isScarce]) ?_
    refine Tm_chk (Or.inl rfl) ?_
    exact Tm_some ⟨rfl, Or.inl rfl⟩
  · refine Tm_suc (fun k => by rw [y_X1_isScarce]) ?_
    refine Tm_chk (Or.inr rfl) ?_
    exact Tm_some ⟨rfl, Or.inr rfl⟩
theorem c_drop : Tm (fun k => y_X9_drop k 0 L σ) (fun r => r = (0, uI (uI (uI σ 2403 0) 2404 0) 2405 0)) := by
  refine Tm_suc (fun k => by rw [y_X9_drop]) ?_
  refine Tm_suc (fun k => by rw [y_X9_drop]) ?_
  exact Tm_some rfl
/-- what making room leaves: values elsewhere; saves perhaps dropped -/
def RmF (σ σ' : CS) : Prop := ((∀ j, ¬ (j = 1 ∨ j = 2403 ∨ j = 2404 ∨ j = 2405) → σ'.1 j = σ.1 j) ∧ ((σ'.1 2403 = σ.1 2403 ∧ σ'.1 2404 = σ.1 2404 ∧ σ'.1 2405 = σ.1 2405) ∨ (σ'.1 2403 = 0 ∧ σ'.1 2404 = 0 ∧ σ'.1 2405 = 0))) ∧ σ'.2.1 = σ.2.1 ∧ (∀ k, ¬ (k = 1 ∨ k = 2 ∨ k = 3 ∨ k = 20 ∨ k = 21 ∨ k = 23 ∨ k = 26 ∨ k = 67) → σ'.2.2.1 k = σ.2.2.1 k) ∧ (∀ k, ¬ (k = 1 ∨ k = 2 ∨ k = 3) → sN σ' k = sN σ k) ∧ σ'.2.2.2.1 = σ.2.2.2.1 ∧ σ'.2.2.2.2.2 = σ.2.2.2.2.2
theorem RmF_r (σ : CS) : RmF σ σ := ⟨⟨fun _ _ => rfl, Or.inl ⟨rfl, rfl, rfl⟩⟩, rfl, fun _ _ => rfl, fun _ _ => rfl, rfl, rfl⟩
theorem RmF_M (a : MvF σ σ') : RmF σ σ' := ⟨⟨fun j hj => a.1 j (fun e => hj (Or.inl e)), Or.inl ⟨a.1 _ (by decide), a.1 _ (by decide), a.1 _ (by decide)⟩⟩, a.2.1, a.2.2.1, fun k _ => by unfold sN; rw [a.2.2.2], by rw [a.2.2.2], by rw [a.2.2.2]⟩
theorem RmF_W (a : WdF σ σ') : RmF σ σ' := ⟨⟨fun j _ => by rw [a.1], Or.inl ⟨by rw [a.1], by rw [a.1], by rw [a.1]⟩⟩, a.2.1, fun k hk => (a.2.2.1 k (by omega)).1, fun k hk => (a.2.2.1 k hk).2, a.2.2.2.1, a.2.2.2.2⟩
theorem RmF_d (σ : CS) : RmF σ (uI (uI (uI σ 2403 0) 2404 0) 2405 0) := ⟨⟨fun j hj => by
  show upd (upd (upd σ.1 2403 0) 2404 0) 2405 0 j = _
  rw [upd_other (by omega), upd_other (by omega), upd_other (by omega)], Or.inr ⟨rfl, rfl, rfl⟩⟩, rfl, fun _ _ => rfl, fun _ _ => rfl, rfl, rfl⟩
theorem RmF_t (a : RmF σ σ') (b : RmF σ' σ2) : RmF σ σ2 := by
  refine ⟨⟨fun j hj => (b.1.1 j hj).trans (a.1.1 j hj), ?_⟩, b.2.1.trans a.2.1, fun k hk => (b.2.2.1 k hk).trans (a.2.2.1 k hk), fun k hk => (b.2.2.2.1 k hk).trans (a.2.2.2.1 k hk), b.2.2.2.2.1.trans a.2.2.2.2.1, b.2.2.2.2.2.trans a.2.2.2.2.2⟩
  rcases b.1.2 with z | z
  · rcases a.1.2 with w | w
    · exact Or.inl ⟨z.1.trans w.1, z.2.1.trans w.2.1, z.2.2.trans w.2.2⟩
    · exact Or.inr ⟨z.1.trans w.1, z.2.1.trans w.2.1, z.2.2.trans w.2.2⟩
  · exact Or.inr z
theorem Rwk_g {f : Nat → Int32} {n : Nat} (h : Rwk g M K f n) (s : (∀ p, g p → g' p) ∧ ∀ p, g p → M' p = M p) : Rwk g' M' K f n := by
  intro j hj
  refine ⟨Gw_sg (h j hj).1 s.1, fun hn => Gv_sg ((h j hj).2.1 hn) s.1, fun v hv => ?_⟩
  rcases (h j hj).2.2 v hv with z | z
  · exact Or.inl z
  · refine Or.inr (z.imp (fun z => ⟨z.1, Gv_sg z.2.1 s.1, fun lt => ?_⟩) (fun z => z.imp (fun z => ⟨z.1, Gv_sg z.2.1 s.1, fun lt => ?_⟩) id))
    · rw [s.2 _ (Gw_c (h j hj).1 lt).2]
      exact z.2.2 lt
    · rw [s.2 _ (Gw_c (h j hj).1 lt).2]
      exact z.2.2 lt
theorem VI_W (a : WdF σ σ') (hm : ∀ p, g p → σ'.2.2.1 3 p = σ.2.2.1 3 p) (v : VI g K K2 K3 K4 σ) : VI g K K2 K3 K4 σ' := by
  have us : usI σ' = usI σ := by unfold usI sPi; rw [a.1, a.2.2.2.2]
  have s20 := a.2.2.1 20 (by decide)
  have s21 := a.2.2.1 21 (by decide)
  have s23 := a.2.2.1 23 (by decide)
  have s26 := a.2.2.1 26 (by decide)
  have s67 := a.2.2.1 67 (by decide)
  have p8 : sPi σ' 8 = sPi σ 8 := by unfold sPi; rw [a.2.2.2.2]
  unfold VI
  rw [us, a.1, s20.1, s20.2, s21.1, s21.2, s23.1, s26.1, s26.2, s67.1, p8]
  obtain ⟨v1, v2, v3, v4, v5, v6, v7, v8⟩ := v
  have sg : (∀ p, g p → g p) ∧ ∀ p, g p → σ'.2.2.1 3 p = σ.2.2.1 3 p := ⟨fun _ z => z, hm⟩
  exact ⟨⟨v1.1, v1.2.1, Rwk_g v1.2.2 sg⟩, Rwk_g v2 sg, ⟨v3.1, v3.2.1, Rwk_g v3.2.2 sg⟩, Rwk_g v4 sg, v5, v6, v7, Rwk_g v8 sg⟩
theorem VI_d (v : VI g K K2 K3 K4 σ) : VI g K K2 K3 K4 (uI (uI (uI σ 2403 0) 2404 0) 2405 0) := ⟨v.1, v.2.1, v.2.2.1, v.2.2.2.1, v.2.2.2.2.1, by show uN 0 ≤ _; exact Nat.zero_le _, v.2.2.2.2.2.2.1, fun j hj => absurd hj (by show ¬ j < uN 0; exact Nat.not_lt_zero j)⟩
/-- behind it: the values that the machine holds, in a heap -/
def RmO (K K2 K3 K4 : Nat → Option Int32) (σ : CS) (r : RS) : Prop := r.1 = (0, 0) ∧ CoP σ r ∧ RmF σ r.2.1 ∧ LnS σ r.2.1 ∧ ∃ (g' : Nat → Prop) (l' : List Nat) (t' : Nat), HQ g' l' t' r.2.1 ∧ VI g' K K2 K3 K4 r.2.1
theorem c_makeRoom (h : HQ g l t σ) (v : VI g K K2 K3 K4 σ) : Tm (fun k => f_X3_makeRoom k 0 L σ) (RmO K K2 K3 K4 σ) := by
  have b2 : ∀ (L' : LV) (σ' : CS), Tm (fun k => f_X3_makeRoom k 2 L' σ') (fun r => r = ((0, 0), σ', (0, 0))) := by
    intro L' σ'
    refine Tm_suc (fun k => by rw [f_X3_makeRoom]) ?_
    exact Tm_some rfl
  refine Tm_suc (fun k => by rw [f_X3_makeRoom]) ?_
  refine Tm_op c_isTight (fun r1 q1 => ?_)
  have e1 : r1.2 = σ := q1.1
  rw [e1]
  refine Tm_ite (fun _ => Tm_some ⟨rfl, CoP_0 rfl, RmF_r σ, LnS_r σ, g, l, t, h, v⟩) (fun _ => ?_)
  refine Tm_suc (fun k => by rw [f_X3_makeRoom]) ?_
  refine Tm_op (c_moveAll h v) (fun r2 q2 => ?_)
  obtain ⟨g2, l2, t2, h2, v2, f2, n2⟩ := q2
  refine Tm_oxc (c_widenH h2) (fun r q => by rw [q.1]) (fun r3 q3 => ?_)
  obtain ⟨z3, c3, h3, f3, n3⟩ := q3
  have n4 : LnS σ r3.2.1 := by
    refine LnS_t n2 (f2.1 1902 (by decide)) (fun j hj => ?_)
    rw [(f3.2.2.1 20 (by decide)).1]
    have gv := (v2.1.2.2 j hj).1
    refine ⟨?_, fun _ => rfl⟩
    unfold kdC
    split
    · rename_i d
      rw [n3 _ (HQ_c h2 (Gw_c gv d).2).1]
    · rfl
  have v3 := VI_W f3 (fun p hp => n3 p (HQ_c h2 hp).1) v2
  have ph := Ph_s (σ := σ) (σ' := r2.2) (by rw [f2.2.2.2])
  have fin : ∀ (σ' : CS) (L' : LV), σ'.2.2.2 = r3.2.1.2.2.2 → RmF σ σ' → LnS σ σ' → (∃ (g' : Nat → Prop) (l' : List Nat) (t' : Nat), HQ g' l' t' σ' ∧ VI g' K K2 K3 K4 σ') → Tm (fun k => f_X3_makeRoom k 2 L' σ') (fun q => RmO K K2 K3 K4 σ (q.1, q.2.1, (r3.2.2.1 + q.2.2.1, r3.2.2.2 + q.2.2.2))) := by
    intro σ' L' es ff nn ex
    refine Tm_mono (b2 L' σ') (fun r e => ?_)
    rw [e]
    have p2 := Ph_s (σ := r3.2.1) (σ' := σ') (by rw [es])
    have c1 := c3.1
    have c2 := c3.2
    exact ⟨rfl, ⟨by show r3.2.2.1 + 0 + PhC σ' ≤ PhC σ; omega, by show r3.2.2.2 + 0 + PhS σ' ≤ PhS σ; omega⟩, ff, nn, ex⟩
  have ff3 := RmF_t (RmF_M f2) (RmF_W f3)
  refine Tm_op c_isScarce (fun r4 q4 => ?_)
  have e4 : r4.2 = r3.2.1 := q4.1
  rw [e4]
  refine Tm_ite (fun _ => fin _ _ rfl ff3 n4 ⟨g2, l2, t2, h3, v3⟩) (fun _ => ?_)
  refine Tm_op (c_used v3.2.2.2.2.1) (fun r5 e5 => ?_)
  rw [e5]
  refine Tm_ite (fun _ => fin _ _ rfl ff3 n4 ⟨g2, l2, t2, h3, v3⟩) (fun _ => ?_)
  refine Tm_op c_drop (fun r6 e6 => ?_)
  rw [e6]
  refine Tm_op (c_moveAll (HQ_fr h3 rfl rfl rfl) (VI_d v3)) (fun r7 q7 => ?_)
  obtain ⟨g7, l7, t7, h7, v7, f7, n7⟩ := q7
  exact fin _ _ (by rw [f7.2.2.2]; rfl) (RmF_t ff3 (RmF_t (RmF_d _) (RmF_M f7))) (LnS_t n4 (ff3.1.1 1902 (by decide)) n7) ⟨g7, l7, t7, h7, v7⟩
end CSO
