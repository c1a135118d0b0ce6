/-! The class: what holds between instructions. -/
section CSR
variable {g g' g2 : Nat → Prop} {l l' l2 : List Nat} {t t' t2 : Nat} {σ σ' σ2 : CS} {L : LV} {x y i : Int32} {M M' U U' : Nat → Int32} {K K' K2 K3 K4 KB : Nat → Option Int32} {c : Ct} {B f0 u0 : Nat}
/-- the code as it lies in its rows -/
def CtL (c : Ct) (σ : CS) : Prop := ∃ b, sPr σ = some b ∧ σ.2.2.1 (pR0 (sKd σ b)) = tcC c ∧ sN σ (pR0 (sKd σ b)) = tcN c ∧ ∀ u, u < 42 → uN (σ.2.2.1 (pR13 b) u) = tcE c u ∧ uN (σ.2.2.1 (pR14 b) u) = tcP c u ∧ uN (σ.2.2.1 (pR18 b) u) = tcF c u
/-- rows that the machine writes -/
def rwM (k : Nat) : Prop := k = 1 ∨ k = 2 ∨ k = 3 ∨ (5 ≤ k ∧ k ≤ 11) ∨ k = 13 ∨ (15 ≤ k ∧ k ≤ 17) ∨ (20 ≤ k ∧ k ≤ 23) ∨ k = 26 ∨ k = 27 ∨ k = 67
/-- what the machine may write -/
def MFr (σ σ' : CS) : Prop := (∀ j, ¬ (j = 1 ∨ j = 404 ∨ j = 1203 ∨ (1800 ≤ j ∧ j < 1820) ∨ (1900 ≤ j ∧ j < 1917) ∨ (2400 ≤ j ∧ j < 2410) ∨ (2800 ≤ j ∧ j < 3700)) → σ'.1 j = σ.1 j) ∧ (∀ j, ¬ (j = 1916 ∨ (2800 ≤ j ∧ j < 3700)) → σ'.2.1 j = σ.2.1 j) ∧ (∀ k, ¬ rwM k → σ'.2.2.1 k = σ.2.2.1 k ∧ sN σ' k = sN σ k) ∧ σ'.2.2.2.1 = σ.2.2.2.1 ∧ σ'.2.2.2.2.2.1 = σ.2.2.2.2.2.1
theorem MFr_r (σ : CS) : MFr σ σ := ⟨fun _ _ => rfl, fun _ _ => rfl, fun _ _ => ⟨rfl, rfl⟩, rfl, rfl⟩
theorem MFr_t (a : MFr σ σ') (b : MFr σ' σ2) : MFr σ σ2 := ⟨fun j hj => (b.1 j hj).trans (a.1 j hj), fun j hj => (b.2.1 j hj).trans (a.2.1 j hj), fun k hk => ⟨((b.2.2.1 k hk).1).trans (a.2.2.1 k hk).1, ((b.2.2.1 k hk).2).trans (a.2.2.1 k hk).2⟩, b.2.2.2.1.trans a.2.2.2.1, b.2.2.2.2.trans a.2.2.2.2⟩
theorem CtL_M (h : CtL c σ) (f : MFr σ σ') : CtL c σ' := by
  obtain ⟨b, h1, h2, h3, h4⟩ := h
  have e : sKd σ' b = sKd σ b := by show σ'.2.2.2.2.2.1.2.2.2.2 b = σ.2.2.2.2.2.1.2.2.2.2 b; rw [f.2.2.2.2]
  have r0 : ¬ rwM (pR0 (sKd σ b)) := by unfold rwM pR0; cases sKd σ b <;> (show ¬ _; decide)
  have r13 : ¬ rwM (pR13 b) := by unfold rwM pR13; cases b <;> (show ¬ _; decide)
  have r14 : ¬ rwM (pR14 b) := by unfold rwM pR14; cases b <;> (show ¬ _; decide)
  have r18 : ¬ rwM (pR18 b) := by unfold rwM pR18; cases b <;> (show ¬ _; decide)
  refine ⟨b, ?_, ?_, ?_, fun u hu => ?_⟩
  · show σ'.2.2.2.2.2.1.2.2.1 = _
    rw [f.2.2.2.2]; exact h1
  · rw [e, (f.2.2.1 _ r0).1]; exact h2
  · rw [e, (f.2.2.1 _ r0).2]; exact h3
  · rw [(f.2.2.1 _ r13).1, (f.2.2.1 _ r14).1, (f.2.2.1 _ r18).1]; exact h4 u hu
/-- a saved run: where its fields are, where its rows begin -/
def SvR (c : Ct) (K : Nat → Option Int32) (σ : CS) (p s : Nat) : Prop := RUN c (fun j => K (s + j)) (uN (σ.1 (100 * (28 + p) + 0))) (uN (σ.1 (100 * (28 + p) + 1))) (uN (σ.1 (100 * (28 + p) + 2))) (uN (σ.1 (100 * (28 + p) + 8))) 0 ∧ (σ.1 (100 * (28 + p) + 7) = 0 ∧ uN (σ.1 (100 * (28 + p) + 5)) ≤ 60000) ∧ (uN (σ.1 (100 * (28 + p) + 13)) ≤ 44200 ∧ uN (σ.1 (100 * (28 + p) + 12)) ≤ 20 ∧ uN (σ.1 (100 * (28 + p) + 14)) ≤ 1000000 ∧ uN (σ.1 (100 * (28 + p) + 15)) ≤ 2000000000 ∧ uN (σ.1 (100 * (28 + p) + 2)) ≤ sN σ 20 ∧ uN (σ.1 (100 * (28 + p) + 13)) ≤ sN σ 21) ∧ POK c (fun j => K (s + uN (σ.1 (100 * (28 + p) + 2)) + j)) (sN σ 20) (uN (σ.1 (100 * (28 + p) + 12))) (uN (σ.1 (100 * (28 + p) + 13)))
/-- how many statements saved runs had begun -/
def SVB (σ : CS) : Prop := (∀ i, i < uN (σ.1 2404) → uN (σ.1 (100 * (28 + sPi σ i) + 3)) < uN (σ.1 2407) ∧ uN (σ.1 (100 * (28 + sPi σ i) + 3)) ≤ 10240000 ∧ ∀ k, i < k → k < uN (σ.1 2404) → uN (σ.1 (100 * (28 + sPi σ i) + 3)) < uN (σ.1 (100 * (28 + sPi σ k) + 3))) ∧ (¬ σ.1 2405 = 0 → uN (σ.1 (100 * (28 + sPi σ 8) + 3)) ≤ 10240000)
theorem SVB_e (h4 : uN (σ.1 2404) ≤ 8) (hp : ∀ i, i < 9 → sPi σ i < 9) (e1 : ∀ j, 2400 ≤ j → j < 3700 → σ'.1 j = σ.1 j) (e3 : ∀ i, sPi σ' i = sPi σ i) (h : SVB σ) : SVB σ' := by
  have e4 := e1 2404 (by decide) (by decide)
  have ef : ∀ i, i < 9 → σ'.1 (100 * (28 + sPi σ' i) + 3) = σ.1 (100 * (28 + sPi σ i) + 3) := fun i hi => by
    have p9 := hp i hi
    rw [e3, e1 _ (by omega) (by omega)]
  refine ⟨fun i hi => ?_, fun hn => ?_⟩
  · rw [e4] at hi
    have z := h.1 i hi
    rw [ef i (by omega), e1 2407 (by decide) (by decide)]
    refine ⟨z.1, z.2.1, fun k k1 k2 => ?_⟩
    rw [e4] at k2
    rw [ef k (by omega)]
    exact z.2.2 k k1 k2
  · rw [e1 2405 (by decide) (by decide)] at hn
    rw [ef 8 (by decide)]
    exact h.2 hn
/-- the saved runs -/
def SVK (c : Ct) (K : Nat → Option Int32) (σ : CS) : Prop := ((uN (σ.1 2404) ≤ 8 ∧ uN (σ.1 2403) ≤ 20000) ∧ SVB σ) ∧ (∀ i, i < 9 → sPi σ i < 9) ∧ (∀ i j, i < 9 → j < 9 → sPi σ i = sPi σ j → i = j) ∧ (∀ i, i < uN (σ.1 2404) → SvR c K σ (sPi σ i) (uN (σ.2.2.1 27 i)) ∧ uN (σ.2.2.1 27 i) + uN (σ.1 (100 * (28 + sPi σ i) + 2)) + uN (σ.1 (100 * (28 + sPi σ i) + 13)) ≤ uN (σ.1 2403) ∧ ∀ k, i < k → k < uN (σ.1 2404) → uN (σ.2.2.1 27 i) + uN (σ.1 (100 * (28 + sPi σ i) + 2)) + uN (σ.1 (100 * (28 + sPi σ i) + 13)) ≤ uN (σ.2.2.1 27 k)) ∧ (¬ σ.1 2405 = 0 → SvR c K σ (sPi σ 8) (uN (σ.1 2403)) ∧ uN (σ.2.2.1 27 8) = uN (σ.1 2403) ∧ uN (σ.1 2403) + uN (σ.1 (100 * (28 + sPi σ 8) + 2)) + uN (σ.1 (100 * (28 + sPi σ 8) + 13)) ≤ 20000)
/-- between instructions -/
def MIn (c : Ct) (g : Nat → Prop) (l : List Nat) (t : Nat) (K K2 K3 K4 : Nat → Option Int32) (B : Nat) (KB : Nat → Option Int32) (σ : CS) : Prop := HQ g l t σ ∧ VI g K K2 K3 K4 σ ∧ CtL c σ ∧ POK c K2 (sN σ 20) (uN (σ.1 1912)) (uN (σ.1 1913)) ∧ SVK c K3 σ ∧ (∀ j, j < B → K j = KB j) ∧ (4 + tcF c 0 ≤ B ∧ B ≤ uN (σ.1 1902)) ∧ uN (σ.1 1903) + uN (σ.1 1814) ≤ 10240000 ∧ uN (σ.1 1912) ≤ 20 ∧ uN (σ.1 1914) ≤ 1000000 ∧ uN (σ.1 1915) ≤ 2000000000
/-- a run's stack as its unit has it -/
def TyS (c : Ct) (K K4 : Nat → Option Int32) (f0 u0 : Nat) (σ : CS) (fs : List FrT) (u d : Nat) (r : List Nat) (pb nf nc sq : Nat) : Prop := SL K (uN (σ.1 1901) + 4) (uN (σ.1 1902)) d r ∧ FC c K K4 f0 u0 fs (uN (σ.1 1901)) u pb nf nc sq ∧ tcF c u ≤ bt d r ∧ (uN (σ.1 1815) = nf ∧ nf ≤ 20) ∧ uN (σ.1 1811) = pb ∧ (tcS c u0 → uN (σ.1 1908) = nc) ∧ nc ≤ 50 ∧ u < 42 ∧ PaM K4 pb 180 r
/-- it runs, with so much left in this statement -/
def RunT (c : Ct) (K K4 : Nat → Option Int32) (f0 u0 : Nat) (σ : CS) (q : Nat) : Prop := uN (σ.1 1905) ≤ 60000 ∧ ∃ (u d : Nat) (r : List Nat) (rk : Nat) (fs : List FrT) (pb nf nc sq : Nat), (TyS c K K4 f0 u0 σ fs u d r pb nf nc sq ∧ tcD c (uN (σ.1 1900)) = some (u, d, r, rk) ∧ q = (20 - nf) * (RK + 1) + sq + rk) ∨ ∃ (dd : Nat) (r0 : List Nat), (d = 0 ∧ r = (750000 + dd) :: r0 ∧ 2 ≤ dd ∧ dd < 250000) ∧ TyS c K K4 f0 u0 σ fs u d r pb nf nc sq ∧ tcD c (uN (σ.1 1900)) = some (u + 100, d, r, rk) ∧ (5 ≤ kdC (σ.2.2.1 3) (σ.2.2.1 20 (uN (σ.1 1902) - 3)) ∧ 2147483648 ≤ uN (σ.2.2.1 20 (uN (σ.1 1902) - 1))) ∧ q = (20 - nf) * (RK + 1) + sq + (rk - min (uN (σ.2.2.1 20 (uN (σ.1 1902) - 1)) % 268435456) 1000)
def QK : Nat := 150 * (RK + 1)
def mu (σ : CS) (q : Nat) : Nat := uN (σ.1 1814) * (60002 * QK) + (60000 - uN (σ.1 1905)) * QK + q
/-- what an exp that is asked leaves of the run -/
def EvF (σ σ' : CS) : Prop := ∀ j, 1903 ≤ j → j < 1914 → ¬ j = 1905 → σ'.1 j = σ.1 j
/-- why it stands -/
def Hz (P : Prop) (σ : CS) : Prop := ¬ σ.1 1813 = 0 ∨ (P ∧ σ.1 1907 = 1 ∧ uN (σ.1 1902) ≤ 10404)
/-- behind an instruction -/
def IO (c : Ct) (B : Nat) (KB : Nat → Option Int32) (f0 u0 : Nat) (σ : CS) (m : Nat) (r : RS) : Prop := r.1 = (0, 0) ∧ CoP σ r ∧ MFr σ r.2.1 ∧ (¬ tcS c u0 → EvF σ r.2.1) ∧ ∃ (g : Nat → Prop) (l : List Nat) (t : Nat) (K K2 K3 K4 : Nat → Option Int32), MIn c g l t K K2 K3 K4 B KB r.2.1 ∧ (r.2.1.1 1812 = 0 → ∃ q, RunT c K K4 f0 u0 r.2.1 q ∧ mu r.2.1 q < m) ∧ (¬ r.2.1.1 1812 = 0 → Hz (tcS c u0) r.2.1)
/-- where it goes on: a lower rank; or, where work is done, any -/
def NxD (c : Ct) (p u d : Nat) (r : List Nat) (rk : Nat) : Prop := ∃ (d' : Nat) (r' : List Nat), tcD c p = some (u, d', r', rk) ∧ Rsh d r d' r' ∧ tcF c u ≤ bt d' r'
def Nx (c : Ct) (p u d : Nat) (r : List Nat) (k : Nat) : Prop := ∃ rk, NxD c p u d r rk ∧ rk < k ∧ tcF c u ≤ bt d r
def NxS (c : Ct) (p u d : Nat) (r : List Nat) : Prop := ∃ rk, NxD c p u d r rk ∧ rk ≤ 72 * (RK + 1) ∧ tcF c u ≤ bt d r
/-- the machine's medium steps -/
def Md (σ σ' : CS) : Prop := (∀ j, ¬ (j = 1 ∨ j = 404 ∨ j = 1203 ∨ j = 1811 ∨ j = 1812 ∨ j = 1813 ∨ j = 1815 ∨ j = 1816 ∨ j = 1900 ∨ j = 1901 ∨ j = 1902 ∨ j = 1905) → σ'.1 j = σ.1 j) ∧ (∀ j, ¬ j = 1916 → σ'.2.1 j = σ.2.1 j) ∧ (∀ k, ¬ (k = 3 ∨ (5 ≤ k ∧ k ≤ 11) ∨ k = 13 ∨ (15 ≤ k ∧ k ≤ 17) ∨ k = 20 ∨ k = 22 ∨ k = 23) → σ'.2.2.1 k = σ.2.2.1 k) ∧ ((∀ k, ¬ (k = 20 ∨ k = 22) → sN σ' k = sN σ k) ∧ sN σ 20 ≤ sN σ' 20) ∧ σ'.2.2.2.1 = σ.2.2.2.1 ∧ σ'.2.2.2.2.2 = σ.2.2.2.2.2
theorem Md_r (σ : CS) : Md σ σ := ⟨fun _ _ => rfl, fun _ _ => rfl, fun _ _ => rfl, ⟨fun _ _ => rfl, Nat.le_refl _⟩, rfl, rfl⟩
theorem Md_t (a : Md σ σ') (b : Md σ' σ2) : Md σ σ2 := ⟨fun j hj => (b.1 j hj).trans (a.1 j hj), fun j hj => (b.2.1 j hj).trans (a.2.1 j hj), fun k hk => (b.2.2.1 k hk).trans (a.2.2.1 k hk), ⟨fun k hk => (b.2.2.2.1.1 k hk).trans (a.2.2.2.1.1 k hk), Nat.le_trans a.2.2.2.1.2 b.2.2.2.1.2⟩, b.2.2.2.2.1.trans a.2.2.2.2.1, b.2.2.2.2.2.trans a.2.2.2.2.2⟩
theorem Md_S (a : Sm σ σ') : Md σ σ' := ⟨fun j hj => a.1 j (by omega), fun j _ => by rw [a.2.1], fun k hk => a.2.2.1 k (by omega), ⟨fun k hk => a.2.2.2.1.1 k (by omega), a.2.2.2.1.2⟩, a.2.2.2.2.1, a.2.2.2.2.2⟩
theorem Md_i (σ : CS) {j : Nat} (hj : j = 1811 ∨ j = 1812 ∨ j = 1813 ∨ j = 1815 ∨ j = 1816 ∨ j = 1900 ∨ j = 1901 ∨ j = 1902 ∨ j = 1905) (x : Int32) : Md σ (uI σ j x) := ⟨fun i hi => upd_other (by omega), fun _ _ => rfl, fun _ _ => rfl, ⟨fun _ _ => rfl, Nat.le_refl _⟩, rfl, rfl⟩
theorem Md_A (σ : CS) {k : Nat} (hk : k = 20 ∨ k = 22 ∨ k = 23) (i : Nat) (x : Int32) : Md σ (uA σ k i x) := ⟨fun _ _ => rfl, fun _ _ => rfl, fun j hj => updG_other (by omega), ⟨fun _ _ => rfl, Nat.le_refl _⟩, rfl, rfl⟩
theorem Md_F (σ : CS) {k : Nat} (hk : k = 20 ∨ k = 22 ∨ k = 23) (f : Nat → Int32) : Md σ (uF σ k f) := ⟨fun _ _ => rfl, fun _ _ => rfl, fun j hj => updG_other (by omega), ⟨fun _ _ => rfl, Nat.le_refl _⟩, rfl, rfl⟩
theorem Md_M (a : Md σ σ') : MFr σ σ' := ⟨fun j hj => a.1 j (by omega), fun j hj => a.2.1 j (by omega), fun k hk => by
  unfold rwM at hk
  exact ⟨a.2.2.1 k (by omega), a.2.2.2.1.1 k (by omega)⟩, a.2.2.2.2.1, by rw [a.2.2.2.2.2]⟩
theorem Md_E (a : Md σ σ') : EvF σ σ' := fun j h1 h2 h3 => a.1 j (by omega)
theorem SVK_d (a : Md σ σ') (h : SVK c K3 σ) : SVK c K3 σ' := by
  have ep : ∀ i, sPi σ' i = sPi σ i := fun i => by show σ'.2.2.2.2.2.2 i = _; rw [a.2.2.2.2.2]
  have ef : ∀ p j, σ'.1 (100 * (28 + p) + j) = σ.1 (100 * (28 + p) + j) := fun p j => a.1 _ (by omega)
  have sv : ∀ p s, SvR c K3 σ p s → SvR c K3 σ' p s := by
    intro p s h
    unfold SvR
    rw [ef p 0, ef p 1, ef p 2, ef p 8, ef p 7, ef p 5, ef p 13, ef p 12, ef p 14, ef p 15, a.2.2.2.1.1 21 (by decide)]
    exact ⟨h.1, h.2.1, ⟨h.2.2.1.1, h.2.2.1.2.1, h.2.2.1.2.2.1, h.2.2.1.2.2.2.1, Nat.le_trans h.2.2.1.2.2.2.2.1 a.2.2.2.1.2, h.2.2.1.2.2.2.2.2⟩, POK_eq a.2.2.2.1.2 _ _ (fun _ _ => rfl) h.2.2.2⟩
  obtain ⟨h1, h2, h3, h4, h5⟩ := h
  refine ⟨?_, fun i hi => by rw [ep]; exact h2 i hi, fun i j hi hj e => ?_, fun i hi => ?_, fun hn => ?_⟩
  · exact ⟨by rw [a.1 2404 (by decide), a.1 2403 (by decide)]; exact h1.1, SVB_e h1.1.1 h2 (fun j _ _ => a.1 j (by omega)) ep h1.2⟩
  · rw [ep, ep] at e; exact h3 i j hi hj e
  · rw [a.1 2404 (by decide)] at hi
    have z := h4 i hi
    rw [ep, a.2.2.1 27 (by decide), ef, ef, a.1 2403 (by decide), a.1 2404 (by decide)]
    exact ⟨sv _ _ z.1, z.2⟩
  · rw [a.1 2405 (by decide)] at hn
    have z := h5 hn
    rw [ep, a.2.2.1 27 (by decide), ef, ef, a.1 2403 (by decide)]
    exact ⟨sv _ _ z.1, z.2⟩
/-- the same between instructions, where a medium step was taken -/
theorem MIn_d (h : MIn c g l t K K2 K3 K4 B KB σ) (a : Md σ σ') (hq : HQ g' l' t' σ') (v : VI g' K' K2 K3 K4 σ') (kb : ∀ j, j < B → K' j = KB j) (b : B ≤ uN (σ'.1 1902)) : MIn c g' l' t' K' K2 K3 K4 B KB σ' := by
  refine ⟨hq, v, CtL_M h.2.2.1 (Md_M a), ?_, SVK_d a h.2.2.2.2.1, kb, ⟨h.2.2.2.2.2.2.1.1, b⟩, ?_, ?_⟩
  · rw [a.1 1912 (by decide), a.1 1913 (by decide)]; exact POK_eq a.2.2.2.1.2 _ _ (fun _ _ => rfl) h.2.2.2.1
  · rw [a.1 1903 (by decide), a.1 1814 (by decide)]; exact h.2.2.2.2.2.2.2.1
  · rw [a.1 1912 (by decide), a.1 1914 (by decide), a.1 1915 (by decide)]; exact h.2.2.2.2.2.2.2.2
theorem VI_20 (v : VI g K K2 K3 K4 σ) (a : Md σ σ') (e23 : σ'.2.2.1 23 = σ.2.2.1 23) (s : (∀ p, g p → g' p) ∧ ∀ p, g p → σ'.2.2.1 3 p = σ.2.2.1 3 p) (h1 : uN (σ'.1 1902) ≤ sN σ' 20) (h2 : 1024 ≤ sN σ' 20 ∧ sN σ' 20 ≤ 91000) (h3 : Rwk g' (σ'.2.2.1 3) K' (σ'.2.2.1 20) (uN (σ'.1 1902))) : VI g' K' K2 K3 K4 σ' := by
  have p8 : sPi σ' 8 = sPi σ 8 := by show σ'.2.2.2.2.2.2 8 = _; rw [a.2.2.2.2.2]
  have us : usI σ' = usI σ := by
    unfold usI
    rw [p8, a.1 2405 (by decide), a.1 2403 (by decide), a.1 (100 * (28 + sPi σ 8) + 2) (by omega), a.1 (100 * (28 + sPi σ 8) + 13) (by omega)]
  refine ⟨⟨h1, h2, h3⟩, by rw [e23]; exact Rwk_g v.2.1 s, ?_, ?_, ?_, ?_, ?_, ?_⟩
  · rw [a.1 1913 (by decide), a.2.2.1 21 (by decide), a.2.2.2.1.1 21 (by decide)]
    exact ⟨v.2.2.1.1, v.2.2.1.2.1, Rwk_g v.2.2.1.2.2 s⟩
  · rw [a.2.2.1 67 (by decide)]; exact Rwk_g v.2.2.2.1 s
  · rw [p8]; exact v.2.2.2.2.1
  · rw [us, a.2.2.2.1.1 26 (by decide)]; exact v.2.2.2.2.2.1
  · rw [a.2.2.2.1.1 26 (by decide)]; exact v.2.2.2.2.2.2.1
  · rw [us, a.2.2.1 26 (by decide)]; exact Rwk_g v.2.2.2.2.2.2.2 s
/-- sizes are one at least -/
theorem c_sizeW (h : HQ g l t σ) (hv : Gw g (L.1 1)) : Tm (fun k => y_X1_size k 0 L σ) (fun r => r.2 = σ ∧ 1 ≤ uN r.1 ∧ uN r.1 < 1024) := by
  have a : Tm (fun k => y_X1_size k 2 L σ) (fun r => r.2 = σ ∧ 1 ≤ uN r.1 ∧ uN r.1 < 1024) := by
    refine Tm_suc (fun k => by rw [y_X1_size]) ?_
    refine Tm_suc (fun k => by rw [y_X1_size]) ?_
    exact Tm_some ⟨rfl, by show 1 ≤ uN 2; decide, by show uN 2 < 1024; decide⟩
  have b : Tm (fun k => y_X1_size k 3 L σ) (fun r => r.2 = σ ∧ 1 ≤ uN r.1 ∧ uN r.1 < 1024) := by
    refine Tm_suc (fun k => by rw [y_X1_size]) ?_
    refine Tm_suc (fun k => by rw [y_X1_size]) ?_
    exact Tm_some ⟨rfl, by show 1 ≤ uN 1; decide, by show uN 1 < 1024; decide⟩
  refine Tm_suc (fun k => by rw [y_X1_size]) ?_
  refine Tm_ite (fun c => ?_) (fun c => ?_)
  · refine Tm_suc (fun k => by rw [y_X1_size]) ?_
    refine Tm_ite (fun _ => a) (fun _ => Tm_ite (fun _ => Tm_ite (fun _ => b) (fun _ => a)) (fun _ => b))
  · rw [u_neg] at c
    refine Tm_chk (in_g h (Or.inr (Gw_c hv (by omega))) (by omega)) ?_
    have cg := (HQ_c h (Gw_c hv (by omega)).2).2.2.2.2.2.2.2.1.2
    refine Tm_some ⟨rfl, ?_, ?_⟩
    · show 1 ≤ uN _
      rw [e_siz, u_n (by unfold hdS; omega), u_cl (by omega)]
      exact cg
    · show uN _ < 1024
      rw [e_siz, u_n (by unfold hdS; omega)]
      exact Nat.mod_lt _ (by decide)
theorem c_size1 (h : HQ g l t σ) (hv : Gv g (L.1 1)) : Tm (fun k => y_X1_size k 0 L σ) (fun r => r.2 = σ ∧ 1 ≤ uN r.1 ∧ uN r.1 < 1024) := c_sizeW h (Or.inl hv)
/-- a value in the place of the top -/
def ReO (σ : CS) (x : Int32) (σ' : CS) : Prop := Sm σ σ' ∧ (σ'.1 1 = σ.1 1 ∧ σ'.2.2.1 3 = σ.2.2.1 3 ∧ σ'.2.2.2 = σ.2.2.2) ∧ σ'.1 1902 = σ.1 1902 ∧ ((σ'.2.2.1 20 = σ.2.2.1 20 ∧ σ'.1 1812 = 1 ∧ ¬ σ'.1 1813 = 0) ∨ (σ'.2.2.1 20 = upd (σ.2.2.1 20) (uN (σ.1 1902) - 1) x ∧ (True ∧ (σ'.1 1813 = σ.1 1813 ∨ ¬ σ'.1 1813 = 0)) ∧ ((σ'.1 1812 = 1 ∧ ¬ σ'.1 1813 = 0) ∨ (σ'.1 1812 = σ.1 1812 ∧ uN (σ.1 1905) < uN (σ'.1 1905) ∧ uN (σ'.1 1905) ≤ 60000))))
theorem spS_13 (σ : CS) (n : Int32) : (spS σ n).1 1813 = σ.1 1813 ∨ ¬ (spS σ n).1 1813 = 0 := by
  unfold spS
  split
  · exact Or.inl rfl
  · exact Or.inr (by show ¬ (11 : Int32) = 0; decide)
theorem spS_w {n : Int32} (h1 : 1 ≤ uN n) (h2 : uN n < 1024) (w : uN (σ.1 1905) ≤ 60000) : ((spS σ n).1 1812 = 1 ∧ ¬ (spS σ n).1 1813 = 0) ∨ ((spS σ n).1 1812 = σ.1 1812 ∧ uN (σ.1 1905) < uN ((spS σ n).1 1905) ∧ uN ((spS σ n).1 1905) ≤ 60000) := by
  have e : uN (σ.1 1905 + n) = uN (σ.1 1905) + uN n := u_add (by omega)
  have e6 : uN (60000 : Int32) = 60000 := rfl
  unfold spS
  split
  · rename_i c
    rw [u_le (by omega) (by decide), e, e6] at c
    right
    refine ⟨rfl, ?_, ?_⟩
    · show _ < uN (σ.1 1905 + n)
      omega
    · show uN (σ.1 1905 + n) ≤ _
      omega
  · left
    exact ⟨rfl, by show ¬ (11 : Int32) = 0; decide⟩
theorem nz_15 {x : Int32} (h : Rw x) : ¬ (x &&& 15) = 0 := by
  intro e
  have e' : uN (x &&& 15) = 0 := by rw [e]; rfl
  rw [u_and] at e'
  have z : uN x &&& 15 = uN x % 16 := Nat.and_two_pow_sub_one_eq_mod (uN x) 4
  have e2 : uN x &&& uN (15 : Int32) = 0 := e'
  have e3 : uN (15 : Int32) = 15 := rfl
  rw [e3, z] at e2
  exact h.2 e2
theorem c_replace (h : HQ g l t σ) (hx : Gv g (L.1 1)) (h1 : 1 ≤ uN (σ.1 1902)) (h2 : uN (σ.1 1902) ≤ sN σ 20) (h3 : sN σ 20 ≤ 91000) (w : uN (σ.1 1905) ≤ 60000) : Tm (fun k => y_X3_replace k 0 L σ) (fun r => ReO σ (L.1 1) r.2) := by
  have u1 : uN (1 : Int32) = 1 := rfl
  have es : uN (σ.1 1902 - 1) = uN (σ.1 1902) - 1 := by rw [u_sub (by omega), u1]
  refine Tm_suc (fun k => by rw [y_X3_replace]) ?_
  refine Tm_oc c_isError (fun r q => ?_)
  have e : r.2 = σ := q.1.1
  rw [e]
  refine Tm_ite (fun c0 => ?_) (fun c0 => ?_)
  · refine Tm_suc (fun k => by rw [y_X3_replace]) ?_
    refine Tm_chk (u_in (by omega) (by omega)) ?_
    refine Tm_oc (c_size1 (HQ_f h (k := 20) (by decide) _) hx) (fun r2 q2 => ?_)
    have e2 : r2.2 = uA σ 20 (σ.1 1902 - 1).toNatClampNeg (L.1 1) := q2.1
    rw [e2]
    refine Tm_oc c_spend (fun r3 e3 => ?_)
    rw [e3]
    refine Tm_suc (fun k => by rw [y_X3_replace]) ?_
    have s := spS_s (uA σ 20 (σ.1 1902 - 1).toNatClampNeg (L.1 1)) r2.1
    have z := spS_w (σ := uA σ 20 (σ.1 1902 - 1).toNatClampNeg (L.1 1)) q2.2.1 q2.2.2 w
    refine Tm_some ⟨Sm_t (Sm_20 σ _ _) (spS_m _ _), ⟨s.2.1, ?_, ?_⟩, s.2.2, Or.inr ⟨?_, ⟨trivial, spS_13 (uA σ 20 (σ.1 1902 - 1).toNatClampNeg (L.1 1)) r2.1⟩, z⟩⟩
    · show (spS (uA σ 20 (σ.1 1902 - 1).toNatClampNeg (L.1 1)) r2.1).2.2.1 3 = _
      rw [s.1]; rfl
    · show (spS (uA σ 20 (σ.1 1902 - 1).toNatClampNeg (L.1 1)) r2.1).2.2.2 = _
      rw [s.1]; rfl
    · show (spS (uA σ 20 (σ.1 1902 - 1).toNatClampNeg (L.1 1)) r2.1).2.2.1 20 = _
      rw [s.1, ← es, ← u_cl (x := σ.1 1902 - 1) (by omega)]
      rfl
  · refine Tm_oc c_fail (fun r2 e2 => ?_)
    rw [e2]
    refine Tm_suc (fun k => by rw [y_X3_replace]) ?_
    have er : Rr (L.1 1) := by
      rcases Nat.lt_or_ge (uN (L.1 1)) 4026531840 with y | y
      · exact absurd (q.2.2.2 (fun z => by have z' : 4026531840 ≤ uN (L.1 1) := z; omega)) c0
      · exact y
    refine Tm_some ⟨Sm_t (Sm_i σ (by decide) _) (Sm_i _ (by decide) _), ⟨rfl, rfl, rfl⟩, rfl, Or.inl ⟨rfl, rfl, ?_⟩⟩
    show ¬ (L.1 1 &&& 15) = 0
    exact nz_15 (er_of (Or.inl hx) er)
end CSR
