/-! The class: saved runs are thinned out. -/
section CUB
variable {g g' g2 : Nat → Prop} {l l' l2 : List Nat} {t t' t2 : Nat} {σ σ' σ2 τ τ' : CS} {L : LV} {x y z i : Int32} {M M' U U' : Nat → Int32} {K K' K0 K2 K2' K3 K3' K4 K4' KB : Nat → Option Int32} {c : Ct} {B f0 u0 a T : Nat} {fs : List FrT} {u d : Nat} {r r' : List Nat} {pb nf nc sq rk : Nat}
theorem uI_o {j i : Nat} (h : i ≠ j) : (uI σ j x).1 i = σ.1 i := upd_other h
theorem uI_s {j : Nat} : (uI σ j x).1 j = x := upd_same
abbrev en8 (σ : CS) (i : Nat) : Nat := uN (σ.2.2.1 27 i) + uN (σ.1 (100 * (28 + sPi σ i) + 2)) + uN (σ.1 (100 * (28 + sPi σ i) + 13))
abbrev bg8 (σ : CS) (i : Nat) : Nat := uN (σ.1 (100 * (28 + sPi σ i) + 3))
/-- what a gap is at least -/
def w8 (x : Int32) : Int32 := if x < (256 : Int32) then (256 : Int32) else x
theorem w8_u (x : Int32) : 256 ≤ uN (w8 x) ∧ uN (w8 x) < 2147483648 := by
  unfold w8
  split
  · exact ⟨by decide, by decide⟩
  · rename_i h
    have h0 : (0 : Int32).toInt = 0 := rfl
    have h2 : (256 : Int32).toInt = 256 := rfl
    have n0 : uN x < 2147483648 := by
      rcases Nat.lt_or_ge (uN x) 2147483648 with y | y
      · exact y
      · exfalso
        have z : x < 0 := (u_neg x).2 y
        rw [i_lt] at z h
        omega
    refine ⟨?_, n0⟩
    have e : uN (256 : Int32) = 256 := rfl
    rw [u_ltn n0 (by decide), e] at h
    omega
theorem w8_2 {x : Int32} (h : uN (w8 x) < 1073741824) : uN (w8 (2 * w8 x)) = 2 * uN (w8 x) := by
  have z := w8_u x
  have e : uN (2 * w8 x) = 2 * uN (w8 x) := u_dbl (by omega)
  have e2 : uN (256 : Int32) = 256 := rfl
  rw [show w8 (2 * w8 x) = 2 * w8 x from if_neg (by rw [u_ltn (by omega) (by decide), e, e2]; omega)]
  exact e
theorem u_div {x y : Int32} (hx : uN x < 2147483648) (h0 : 0 < uN y) (hy : uN y < 2147483648) : uN (x / y) = uN x / uN y := by
  have e : x / y = nI (uN x / uN y) := by
    conv => lhs; rw [u_of x, u_of y]
    exact n_div hx h0 hy
  rw [e, u_n]
  have := Nat.div_le_self (uN x) (uN y)
  omega
theorem u_mulN {x y : Int32} (h : uN x * uN y < 4294967296) : uN (x * y) = uN x * uN y := by
  show (x.toBitVec * y.toBitVec).toNat = _
  rw [BitVec.toNat_mul]
  exact Nat.mod_eq_of_lt h
theorem u_rem {x y : Int32} (hx : uN x < 2147483648) (h0 : 0 < uN y) (hy : uN y < 2147483648) (e : x - x / y * y = 0) : uN x % uN y = 0 := by
  have d := u_div hx h0 hy
  have le := Nat.div_mul_le_self (uN x) (uN y)
  have m : uN (x / y * y) = uN x / uN y * uN y := by
    rw [u_mulN (by rw [d]; omega), d]
  have z : uN (x - x / y * y) = uN x - uN x / uN y * uN y := by rw [u_sub (by rw [m]; exact le), m]
  have z0 : uN (x - x / y * y) = 0 := by rw [e]; rfl
  have eq : uN x = uN x / uN y * uN y := by omega
  rw [eq]
  exact Nat.mul_mod_left _ _
/-- begun, of the eight -/
def B8 (σ : CS) : Prop := ∀ i, i < uN (σ.1 2404) → bg8 σ i < uN (σ.1 2407) ∧ bg8 σ i ≤ 10240000 ∧ ∀ k, i < k → k < uN (σ.1 2404) → bg8 σ i < bg8 σ k
/-- the eight -/
def SV8 (c : Ct) (g : Nat → Prop) (K3 : Nat → Option Int32) (σ : CS) : Prop := (uN (σ.1 2404) ≤ 8 ∧ uN (σ.1 2403) ≤ sN σ 26 ∧ sN σ 26 ≤ 20000) ∧ (∀ i, i < 9 → sPi σ i < 9) ∧ (∀ i j, i < 9 → j < 9 → sPi σ i = sPi σ j → i = j) ∧ (∀ i, i < uN (σ.1 2404) → SvR c K3 σ (sPi σ i) (uN (σ.2.2.1 27 i)) ∧ en8 σ i ≤ uN (σ.1 2403) ∧ ∀ k, i < k → k < uN (σ.1 2404) → en8 σ i ≤ uN (σ.2.2.1 27 k)) ∧ Rwk g (σ.2.2.1 3) K3 (σ.2.2.1 26) (uN (σ.1 2403)) ∧ B8 σ
/-- a saved run elsewhere -/
theorem SvR_m {p s s' : Nat} (h : SvR c K σ p s) (ef : ∀ j, j < 16 → τ.1 (100 * (28 + p) + j) = σ.1 (100 * (28 + p) + j)) (n20 : sN τ 20 = sN σ 20) (n21 : sN τ 21 = sN σ 21) (ek : ∀ j, j < uN (σ.1 (100 * (28 + p) + 2)) + uN (σ.1 (100 * (28 + p) + 13)) → K' (s' + j) = K (s + j)) : SvR c K' τ p s' := by
  unfold SvR
  rw [ef 0 (by decide), ef 1 (by decide), ef 2 (by decide), ef 8 (by decide), ef 7 (by decide), ef 5 (by decide), ef 13 (by decide), ef 12 (by decide), ef 14 (by decide), ef 15 (by decide), n20, n21]
  refine ⟨RUN_eq h.1 (fun q hq => ek q (by omega)), h.2.1, h.2.2.1, POK_eq (Nat.le_refl _) _ _ (fun q hq => ?_) h.2.2.2⟩
  have z := ek (uN (σ.1 (100 * (28 + p) + 2)) + q) (by omega)
  rw [← Nat.add_assoc, ← Nat.add_assoc] at z
  exact z
def sw8 (s i a : Nat) : Nat := if a = s then i else if a = i then s else a
theorem sw8_inj {s i a b : Nat} (h : sw8 s i a = sw8 s i b) : a = b := by
  unfold sw8 at h
  split at h <;> split at h <;> (try split at h) <;> (try split at h) <;> omega
theorem sw8_lt {s i a n : Nat} (hs : s < n) (hi : i < n) (ha : a < n) : sw8 s i a < n := by
  unfold sw8
  split
  · exact hi
  · split
    · exact hs
    · exact ha
/-- begun, midway -/
def BT8 (n i : Nat) (σ : CS) : Prop := (∀ a, (a < uN (σ.1 2404) ∨ (i ≤ a ∧ a < n)) → bg8 σ a < uN (σ.1 2407) ∧ bg8 σ a ≤ 10240000) ∧ (∀ a k, (a < uN (σ.1 2404) ∨ (i ≤ a ∧ a < n)) → (k < uN (σ.1 2404) ∨ (i ≤ k ∧ k < n)) → a < k → bg8 σ a < bg8 σ k) ∧ ∀ a, a < uN (σ.1 2404) → bg8 σ a % uN (w8 (σ.1 2406)) = 0
/-- thinning, midway: so many were gone over -/
def ThI (c : Ct) (g : Nat → Prop) (K3 : Nat → Option Int32) (F n i : Nat) (σ : CS) : Prop := (uN (σ.1 2404) ≤ i ∧ i ≤ n ∧ n ≤ 8 ∧ uN (σ.1 2403) ≤ F ∧ F ≤ sN σ 26 ∧ sN σ 26 ≤ 20000) ∧ (∀ i, i < 9 → sPi σ i < 9) ∧ (∀ i j, i < 9 → j < 9 → sPi σ i = sPi σ j → i = j) ∧ (∀ a, a < uN (σ.1 2404) → SvR c K3 σ (sPi σ a) (uN (σ.2.2.1 27 a)) ∧ en8 σ a ≤ uN (σ.1 2403) ∧ ∀ k, a < k → k < uN (σ.1 2404) → en8 σ a ≤ uN (σ.2.2.1 27 k)) ∧ (∀ a, i ≤ a → a < n → SvR c K3 σ (sPi σ a) (uN (σ.2.2.1 27 a)) ∧ uN (σ.1 2403) ≤ uN (σ.2.2.1 27 a) ∧ en8 σ a ≤ F ∧ ∀ k, a < k → k < n → en8 σ a ≤ uN (σ.2.2.1 27 k)) ∧ Rwk g (σ.2.2.1 3) K3 (σ.2.2.1 26) F ∧ BT8 n i σ
theorem Th_s {F n i : Nat} (h : ThI c g K3 F n i σ) (hi : i < n) : ThI c g K3 F n (i + 1) σ := ⟨⟨by have := h.1.1; omega, hi, h.1.2.2⟩, h.2.1, h.2.2.1, h.2.2.2.1, fun a h1 h2 => h.2.2.2.2.1 a (by omega) h2, h.2.2.2.2.2.1, fun a z => h.2.2.2.2.2.2.1 a (by omega), fun a k z1 z2 => h.2.2.2.2.2.2.2.1 a k (by omega) (by omega), h.2.2.2.2.2.2.2.2⟩
theorem Th_e {F n : Nat} (h : ThI c g K3 F n n σ) : SV8 c g K3 σ := by
  obtain ⟨⟨h1, h2, h3, h4, h5, h6⟩, a1, a2, a3, a4, a5, t1, t2, t3⟩ := h
  exact ⟨⟨by omega, by omega, h6⟩, a1, a2, a3, fun j hj => a5 j (by omega), fun i hi => ⟨(t1 i (Or.inl hi)).1, (t1 i (Or.inl hi)).2, fun k k1 k2 => t2 i k (Or.inl hi) (Or.inl k2) k1⟩⟩
def K8 (K3 : Nat → Option Int32) (st f ln : Nat) : Nat → Option Int32 := fun j => if f ≤ j ∧ j < f + ln then K3 (st + (j - f)) else K3 j
theorem Th_k {F n i : Nat} (h : ThI c g K3 F n i σ) (hi : i < n) (e1 : ∀ j, ¬ (j = 2403 ∨ j = 2404) → τ.1 j = σ.1 j) (e3 : uN (τ.1 2403) = uN (σ.1 2403) + (uN (σ.1 (100 * (28 + sPi σ i) + 2)) + uN (σ.1 (100 * (28 + sPi σ i) + 13)))) (e4 : uN (τ.1 2404) = uN (σ.1 2404) + 1) (e26 : τ.2.2.1 26 = va_cpy (σ.2.2.1 26) (σ.2.2.1 26) (uN (σ.2.2.1 27 i)) (uN (σ.1 2403)) (uN (σ.1 (100 * (28 + sPi σ i) + 2)) + uN (σ.1 (100 * (28 + sPi σ i) + 13)))) (e27 : τ.2.2.1 27 = upd (σ.2.2.1 27) (uN (σ.1 2404)) (σ.1 2403)) (ep : ∀ a, sPi τ a = sPi σ (sw8 (uN (σ.1 2404)) i a)) (er : τ.2.2.1 3 = σ.2.2.1 3) (en : ∀ k, sN τ k = sN σ k) (hd : bg8 σ i % uN (w8 (σ.1 2406)) = 0) : ThI c g (K8 K3 (uN (σ.2.2.1 27 i)) (uN (σ.1 2403)) (uN (σ.1 (100 * (28 + sPi σ i) + 2)) + uN (σ.1 (100 * (28 + sPi σ i) + 13)))) F n (i + 1) τ := by
  obtain ⟨⟨h1, h2, h3, h4, h5, h6⟩, a1, a2, a3, a4, a5, t1, t2, t3⟩ := h
  have eb : ∀ a, a < 9 → bg8 τ a = bg8 σ (sw8 (uN (σ.1 2404)) i a) := fun a ha => by
    have p9 := a1 _ (sw8_lt (s := uN (σ.1 2404)) (i := i) (a := a) (n := 9) (by omega) (by omega) ha)
    unfold bg8
    rw [ep, e1 _ (by omega)]
  have zi := a4 i (Nat.le_refl _) hi
  have zi2 := zi.2.1
  have zi3 := zi.2.2.1
  unfold en8 at zi3
  generalize hl : uN (σ.1 (100 * (28 + sPi σ i) + 2)) + uN (σ.1 (100 * (28 + sPi σ i) + 13)) = ln at *
  generalize hs : uN (σ.1 2404) = s at *
  generalize hf : uN (σ.1 2403) = f at *
  generalize hst : uN (σ.2.2.1 27 i) = st at *
  have ef : ∀ p j, p < 9 → τ.1 (100 * (28 + p) + j) = σ.1 (100 * (28 + p) + j) := fun p j hp => e1 _ (by omega)
  have so : ∀ a, ¬ a = s → ¬ a = i → sPi τ a = sPi σ a ∧ uN (τ.2.2.1 27 a) = uN (σ.2.2.1 27 a) := fun a n1 n2 => by
    rw [ep, e27, upd_other n1]
    unfold sw8
    rw [if_neg n1, if_neg n2]
    exact ⟨rfl, rfl⟩
  have eo : ∀ a, a < 9 → ¬ a = s → ¬ a = i → en8 τ a = en8 σ a := fun a h9 n1 n2 => by
    unfold en8
    rw [(so a n1 n2).2, (so a n1 n2).1, ef _ _ (a1 a h9), ef _ _ (a1 a h9)]
  have ps : sPi τ s = sPi σ i ∧ uN (τ.2.2.1 27 s) = f := by
    rw [ep, e27, upd_same, hf]
    unfold sw8
    rw [if_pos rfl]
    exact ⟨rfl, rfl⟩
  have es : en8 τ s = f + ln := by
    unfold en8
    rw [ps.2, ps.1, ef _ _ (a1 i (by omega)), ef _ _ (a1 i (by omega)), Nat.add_assoc, hl]
  have kl : ∀ j, j < f → K8 K3 st f ln j = K3 j := fun j hj => if_neg (by omega)
  have kh : ∀ j, f + ln ≤ j → K8 K3 st f ln j = K3 j := fun j hj => if_neg (by omega)
  refine ⟨⟨by omega, by omega, h3, by omega, by rw [en]; exact h5, by rw [en]; exact h6⟩, fun a ha => by rw [ep]; exact a1 _ (sw8_lt (by omega) (by omega) ha), fun a b ha hb e => ?_, fun a ha => ?_, fun a h1' h2' => ?_, ?_, ?_⟩
  · rw [ep, ep] at e
    exact sw8_inj (a2 _ _ (sw8_lt (by omega) (by omega) ha) (sw8_lt (by omega) (by omega) hb) e)
  · rw [e4] at ha
    by_cases e : a = s
    · subst e
      refine ⟨?_, by rw [es, e3]; exact Nat.le_refl _, fun k k1 k2 => absurd k2 (by rw [e4]; omega)⟩
      rw [ps.1, ps.2]
      refine SvR_m zi.1 (fun j _ => ef _ _ (a1 i (by omega))) (en 20) (en 21) (fun j hj => ?_)
      rw [hl] at hj
      show (if f ≤ f + j ∧ f + j < f + ln then K3 (st + (f + j - f)) else K3 (f + j)) = _
      rw [if_pos (by omega), Nat.add_sub_cancel_left]
    · have a9 : a < s := by omega
      have z := a3 a a9
      have z2 := z.2.1
      have o := so a e (by omega)
      refine ⟨?_, by rw [eo a (by omega) e (by omega), e3]; omega, fun k k1 k2 => ?_⟩
      · rw [o.1, o.2]
        refine SvR_m z.1 (fun j _ => ef _ _ (a1 a (by omega))) (en 20) (en 21) (fun j hj => kl _ ?_)
        unfold en8 at z2
        omega
      · rw [e4] at k2
        rw [eo a (by omega) e (by omega)]
        by_cases ek : k = s
        · rw [ek, ps.2]; exact z2
        · rw [(so k ek (by omega)).2]
          exact z.2.2 k k1 (by omega)
  · have z := a4 a (by omega) h2'
    have o := so a (by omega) (by omega)
    have oi := zi.2.2.2 a (by omega) h2'
    unfold en8 at oi
    refine ⟨?_, by rw [o.2, e3]; omega, by rw [eo a (by omega) (by omega) (by omega)]; exact z.2.2.1, fun k k1 k2 => ?_⟩
    · rw [o.1, o.2]
      exact SvR_m z.1 (fun j _ => ef _ _ (a1 a (by omega))) (en 20) (en 21) (fun j hj => kh _ (by omega))
    · rw [eo a (by omega) (by omega) (by omega), (so k (by omega) (by omega)).2]
      exact z.2.2.2 k k1 k2
  · rw [er, e26]
    intro j hj
    show Gw g (va_cpy (σ.2.2.1 26) (σ.2.2.1 26) st f ln j) ∧ (K8 K3 st f ln j = none → Gv g (va_cpy (σ.2.2.1 26) (σ.2.2.1 26) st f ln j)) ∧ ∀ v, K8 K3 st f ln j = some v → (va_cpy (σ.2.2.1 26) (σ.2.2.1 26) st f ln j = v ∧ Rr v) ∨ Mkd g (σ.2.2.1 3) v (va_cpy (σ.2.2.1 26) (σ.2.2.1 26) st f ln j)
    unfold va_cpy K8
    by_cases e : f ≤ j ∧ j < f + ln
    · rw [if_pos e, if_pos e]
      exact a5 _ (by omega)
    · rw [if_neg e, if_neg e]
      exact a5 _ hj
  · have swl : ∀ a, (a < s + 1 ∨ (i + 1 ≤ a ∧ a < n)) → (sw8 s i a < s ∨ (i ≤ sw8 s i a ∧ sw8 s i a < n)) := by
      intro a ha
      unfold sw8
      split
      · right; omega
      · split
        · omega
        · omega
    have swm : ∀ a k, (a < s + 1 ∨ (i + 1 ≤ a ∧ a < n)) → (k < s + 1 ∨ (i + 1 ≤ k ∧ k < n)) → a < k → sw8 s i a < sw8 s i k := by
      intro a k ha hk h
      unfold sw8
      split <;> split <;> (try split) <;> (try split) <;> omega
    refine ⟨fun a ha => ?_, fun a k ha hk h => ?_, fun a ha => ?_⟩
    · rw [e4] at ha
      rw [eb a (by omega), e1 2407 (by decide)]
      exact t1 _ (swl a ha)
    · rw [e4] at ha hk
      rw [eb a (by omega), eb k (by omega)]
      exact t2 _ _ (swl a ha) (swl k hk) (swm a k ha hk h)
    · rw [e4] at ha
      rw [eb a (by omega), e1 2406 (by decide)]
      by_cases q : a = s
      · rw [q, show sw8 s i s = i from if_pos rfl]; exact hd
      · rw [show sw8 s i a = a from by unfold sw8; rw [if_neg q, if_neg (by omega)]]
        exact t3 a (by omega)
theorem w256 (x : Int32) : ¬ (if x < (256 : Int32) then (256 : Int32) else x) = 0 := by
  split
  · decide
  · rename_i h
    intro e
    rw [e] at h
    exact h (by decide)
theorem c_thinOut (h : SV8 c g K3 σ) (b21 : sN σ 20 ≤ 91000 ∧ sN σ 21 ≤ 44200) : Tm (fun k => f_X9_thinOut k 0 L σ) (fun q => q.1 = (0, 0) ∧ q.2.2 = (0, 0) ∧ SvF σ q.2.1 ∧ q.2.1.2.2.2.2.1 = σ.2.2.2.2.1 ∧ q.2.1.1 2405 = σ.1 2405 ∧ (q.2.1.1 2406 = 2 * w8 (σ.1 2406) ∧ q.2.1.1 2407 = σ.1 2407 ∧ uN (q.2.1.1 2404) ≤ uN (σ.1 2404) ∧ ∀ a, a < uN (q.2.1.1 2404) → bg8 q.2.1 a % uN (w8 (q.2.1.1 2406)) = 0) ∧ ∃ K3', SV8 c g K3' q.2.1) := by
  obtain ⟨⟨h1, h2, h3⟩, a1, a2, a3, a4, a5⟩ := h
  have b2 : ∀ (m i : Nat) (τ : CS) (L' : LV) (K3' : Nat → Option Int32), ThI c g K3' (uN (σ.1 2403)) (uN (σ.1 2404)) i τ → i + m = uN (σ.1 2404) → L'.1 1 = σ.1 2404 → uN (L'.1 2) = i → SvF σ τ → τ.2.2.2.2.1 = σ.2.2.2.2.1 → τ.1 2405 = σ.1 2405 → τ.1 2406 = 2 * w8 (σ.1 2406) ∧ τ.1 2407 = σ.1 2407 → Tm (fun k => f_X9_thinOut k 2 L' τ) (fun q => q.1 = (0, 0) ∧ q.2.2 = (0, 0) ∧ SvF σ q.2.1 ∧ q.2.1.2.2.2.2.1 = σ.2.2.2.2.1 ∧ q.2.1.1 2405 = σ.1 2405 ∧ (q.2.1.1 2406 = 2 * w8 (σ.1 2406) ∧ q.2.1.1 2407 = σ.1 2407 ∧ uN (q.2.1.1 2404) ≤ uN (σ.1 2404) ∧ ∀ a, a < uN (q.2.1.1 2404) → bg8 q.2.1 a % uN (w8 (q.2.1.1 2406)) = 0) ∧ ∃ K3', SV8 c g K3' q.2.1) := by
    intro m
    induction m with
    | zero =>
      intro i τ L' K3' th im l1 l2 sf es e5 e67
      refine Tm_suc (fun k => by rw [f_X9_thinOut]) ?_
      refine Tm_yes (by rw [l1, u_le (by omega) (by omega)]; omega) ?_
      refine Tm_suc (fun k => by rw [f_X9_thinOut]) ?_
      have e : i = uN (σ.1 2404) := by omega
      rw [e] at th
      exact Tm_some ⟨rfl, rfl, sf, es, e5, ⟨e67.1, e67.2, th.1.1, th.2.2.2.2.2.2.2.2⟩, K3', Th_e th⟩
    | succ m ih =>
      intro i τ L' K3' th im l1 l2 sf es e5 e67
      have c2 : (L'.1 2).toNatClampNeg = i := by rw [u_cl (by omega)]; exact l2
      have i2 : ¬ (L'.1 2 < 0 ∨ 9 ≤ i) := by
        have z : ¬ (L'.1 2 < 0 ∨ 9 ≤ (L'.1 2).toNatClampNeg) := u_in (by omega) (by decide)
        rw [c2] at z; exact z
      have ti := th.1
      have tp := th.2.1
      have p9 := tp i (by omega)
      have zi := th.2.2.2.2.1 i (Nat.le_refl _) (by omega)
      have zi2 := zi.2.1
      have zi3 := zi.2.2.1
      unfold en8 at zi3
      have e21 : uN (L'.1 2 + 1) = i + 1 := by rw [u_inc (by omega), l2]
      refine Tm_suc (fun k => by rw [f_X9_thinOut]) ?_
      rw [c2]
      refine Tm_no (by rw [l1, u_le (by omega) (by omega)]; omega) ?_
      refine Tm_chk i2 (Tm_chk p9 (Tm_no (w256 _) ?_))
      have bgi : uN (τ.1 (100 * (28 + sPi τ i) + 3)) ≤ 10240000 := (th.2.2.2.2.2.2.1 i (Or.inr ⟨Nat.le_refl _, by omega⟩)).2
      have ww := w8_u (τ.1 2406)
      refine Tm_ite (fun hr => ?_) (fun _ => ?_)
      · have hdv : bg8 τ i % uN (w8 (τ.1 2406)) = 0 := u_rem (by omega) (by omega) ww.2 hr
        generalize hp : sPi τ i = p at *
        have ul : uN (τ.1 (100 * (28 + p) + 2) + τ.1 (100 * (28 + p) + 13)) = uN (τ.1 (100 * (28 + p) + 2)) + uN (τ.1 (100 * (28 + p) + 13)) := u_add (by omega)
        have cs : (τ.2.2.1 27 i).toNatClampNeg = uN (τ.2.2.1 27 i) := u_cl (by omega)
        have cf : (τ.1 2403).toNatClampNeg = uN (τ.1 2403) := u_cl (by omega)
        have cl : (τ.1 (100 * (28 + p) + 2) + τ.1 (100 * (28 + p) + 13)).toNatClampNeg = uN (τ.1 (100 * (28 + p) + 2)) + uN (τ.1 (100 * (28 + p) + 13)) := by rw [u_cl (by omega)]; exact ul
        have c4 : (τ.1 2404).toNatClampNeg = uN (τ.1 2404) := u_cl (by omega)
        have i4 : ¬ (τ.1 2404 < 0 ∨ 9 ≤ uN (τ.1 2404)) := by
          have z : ¬ (τ.1 2404 < 0 ∨ 9 ≤ (τ.1 2404).toNatClampNeg) := u_in (by omega) (by decide)
          rw [c4] at z; exact z
        refine Tm_chk i2 (Tm_chk p9 (Tm_chk p9 ?_))
        rw [cs, cf, cl]
        refine Tm_chk ⟨by rw [u_neg]; omega, by rw [u_neg]; omega, by rw [u_neg]; omega, by omega, by omega⟩ ?_
        generalize hω : uF τ 26 (va_cpy (τ.2.2.1 26) (τ.2.2.1 26) (uN (τ.2.2.1 27 i)) (uN (τ.1 2403)) (uN (τ.1 (100 * (28 + p) + 2)) + uN (τ.1 (100 * (28 + p) + 13)))) = ω
        have w1 : ω.1 = τ.1 := by rw [← hω]; rfl
        have wp : ∀ a, sPi ω a = sPi τ a := fun a => by rw [← hω]; rfl
        refine Tm_suc (fun k => by rw [f_X9_thinOut]) ?_
        rw [w1, c4]
        refine Tm_chk i4 (Tm_chk (by rw [wp]; exact tp _ (by omega)) ?_)
        show Tm (fun k => if ¬ (L'.1 2 < 0 ∨ 9 ≤ (L'.1 2).toNatClampNeg) then f_X9_thinOut k 6 _ (uPi ω (L'.1 2).toNatClampNeg (sPi ω (uN (τ.1 2404)))) else none) _
        rw [c2, wp]
        refine Tm_chk i2 ?_
        generalize hψ : uPi ω i (sPi τ (uN (τ.1 2404))) = ψ
        have y1 : ψ.1 = τ.1 := by rw [← hψ]; exact w1
        refine Tm_suc (fun k => by rw [f_X9_thinOut]) ?_
        refine Tm_chk p9 ?_
        rw [y1, c4]
        refine Tm_chk i4 ?_
        show Tm (fun k => if ¬ (ψ.1 2404 < 0 ∨ 9 ≤ (ψ.1 2404).toNatClampNeg) then (if p < 9 then (if p < 9 then f_X9_thinOut k 7 _ (uI (uA (uPi ψ (uN (τ.1 2404)) p) 27 (ψ.1 2404).toNatClampNeg (ψ.1 2403)) 2403 (ψ.1 2403 + ψ.1 (100 * (28 + p) + 2) + ψ.1 (100 * (28 + p) + 13))) else none) else none) else none) _
        rw [y1, c4]
        refine Tm_chk i4 (Tm_chk p9 (Tm_chk p9 ?_))
        generalize hχ : uI (uA (uPi ψ (uN (τ.1 2404)) p) 27 (uN (τ.1 2404)) (τ.1 2403)) 2403 (τ.1 2403 + τ.1 (100 * (28 + p) + 2) + τ.1 (100 * (28 + p) + 13)) = χ
        have x4 : χ.1 2404 = τ.1 2404 := by
          rw [← hχ, uI_o (by decide)]
          show ψ.1 2404 = _
          rw [y1]
        refine Tm_suc (fun k => by rw [f_X9_thinOut]) ?_
        refine Tm_suc (fun k => by rw [f_X9_thinOut]) ?_
        rw [x4]
        have u3 : uN (τ.1 2403 + τ.1 (100 * (28 + p) + 2) + τ.1 (100 * (28 + p) + 13)) = uN (τ.1 2403) + (uN (τ.1 (100 * (28 + p) + 2)) + uN (τ.1 (100 * (28 + p) + 13))) := by rw [u_add (by rw [u_add (by omega)]; omega), u_add (by omega), Nat.add_assoc]
        have fin := Th_k (τ := uI χ 2404 (τ.1 2404 + 1)) th (by omega) (fun j hj => by
          rw [uI_o (by omega), ← hχ, uI_o (by omega)]
          show ψ.1 j = _
          rw [y1]) (by
          rw [uI_o (by decide), ← hχ, uI_s, hp]; exact u3) (by
          rw [uI_s]; exact u_inc (by omega)) (by
          rw [hp, ← hχ]
          show ψ.2.2.1 26 = _
          rw [← hψ, ← hω]
          exact uF_s τ 26 (va_cpy (τ.2.2.1 26) (τ.2.2.1 26) (uN (τ.2.2.1 27 i)) (uN (τ.1 2403)) (uN (τ.1 (100 * (28 + p) + 2)) + uN (τ.1 (100 * (28 + p) + 13))))) (by
          rw [← hχ]
          show updG ψ.2.2.1 27 (upd (ψ.2.2.1 27) (uN (τ.1 2404)) (τ.1 2403)) 27 = _
          rw [updG_same, ← hψ, ← hω]
          rfl) (fun a => by
          rw [← hχ]
          show updN (sPi ψ) (uN (τ.1 2404)) p a = _
          rw [← hψ]
          show updN (updN (sPi ω) i (sPi τ (uN (τ.1 2404)))) (uN (τ.1 2404)) p a = _
          unfold updN sw8
          by_cases q1 : a = uN (τ.1 2404)
          · rw [if_pos q1, if_pos q1]; exact hp.symm
          · rw [if_neg q1, if_neg q1]
            by_cases q2 : a = i
            · rw [if_pos q2, if_pos q2]
            · rw [if_neg q2, if_neg q2]; exact wp a) (by
          rw [← hχ]
          show ψ.2.2.1 3 = _
          rw [← hψ, ← hω]
          rfl) (fun k => by
          rw [← hχ]
          show sN ψ k = _
          rw [← hψ, ← hω]
          rfl) hdv
        refine ih (i + 1) _ _ _ fin (by omega) l1 e21 (SvF_t sf ?_) ?_ ?_ ⟨?_, ?_⟩
        · refine SvF_t ?_ (SvF_i χ (by decide) _)
          rw [← hχ]
          refine SvF_t (SvF_t ?_ (SvF_F (uPi ψ (uN (τ.1 2404)) p) (Or.inr rfl) _)) (SvF_i _ (by decide) _)
          refine SvF_t ?_ (SvF_p ψ _ _)
          rw [← hψ]
          refine SvF_t ?_ (SvF_p ω _ _)
          rw [← hω]
          exact SvF_F τ (Or.inl rfl) _
        · rw [← es, ← hχ, ← hψ, ← hω]
          rfl
        · rw [uI_o (by decide), ← hχ, uI_o (by decide)]
          show ψ.1 2405 = _
          rw [y1]; exact e5
        · rw [uI_o (by decide), ← hχ, uI_o (by decide)]
          show ψ.1 2406 = _
          rw [y1]; exact e67.1
        · rw [uI_o (by decide), ← hχ, uI_o (by decide)]
          show ψ.1 2407 = _
          rw [y1]; exact e67.2
      · refine Tm_suc (fun k => by rw [f_X9_thinOut]) ?_
        exact ih (i + 1) _ _ _ (Th_s th (by omega)) (by omega) l1 e21 sf es e5 e67
  refine Tm_suc (fun k => by rw [f_X9_thinOut]) ?_
  refine Tm_suc (fun k => by rw [f_X9_thinOut]) ?_
  refine b2 (uN (σ.1 2404)) 0 _ _ K3 ?_ (Nat.zero_add _) rfl rfl ?_ rfl ?_ ⟨?_, ?_⟩
  · have ee : ∀ j, ¬ (j = 2403 ∨ j = 2404 ∨ j = 2406) → ∀ v w x, (uI (uI (uI σ 2406 v) 2403 w) 2404 x).1 j = σ.1 j := fun j hj v w x => by
      show upd (upd (upd σ.1 2406 v) 2403 w) 2404 x j = _
      rw [upd_other (by omega), upd_other (by omega), upd_other (by omega)]
    refine ⟨⟨Nat.zero_le _, Nat.zero_le _, h1, Nat.zero_le _, h2, h3⟩, a1, a2, fun a ha => absurd ha (Nat.not_lt_zero a), fun a _ ha => ?_, a4, ?_⟩
    have z := a3 a ha
    have z2 := z.2.1
    have p9 := a1 a (by omega)
    have e8 : en8 (uI (uI (uI σ 2406 (2 * if σ.1 2406 < 256 then 256 else σ.1 2406)) 2403 0) 2404 0) a = en8 σ a := by
      show uN (σ.2.2.1 27 a) + uN ((uI (uI (uI σ 2406 (2 * if σ.1 2406 < 256 then 256 else σ.1 2406)) 2403 0) 2404 0).1 (100 * (28 + sPi σ a) + 2)) + uN ((uI (uI (uI σ 2406 (2 * if σ.1 2406 < 256 then 256 else σ.1 2406)) 2403 0) 2404 0).1 (100 * (28 + sPi σ a) + 13)) = _
      rw [ee _ (by omega), ee _ (by omega)]
    refine ⟨SvR_m z.1 (fun j _ => ee _ (by omega) _ _ _) rfl rfl (fun _ _ => rfl), Nat.zero_le _, ?_, fun k k1 k2 => ?_⟩
    · rw [e8]; exact z2
    · rw [e8]; exact z.2.2 k k1 k2
    have e9 : ∀ a, a < 9 → bg8 (uI (uI (uI σ 2406 (2 * if σ.1 2406 < 256 then 256 else σ.1 2406)) 2403 0) 2404 0) a = bg8 σ a := fun a ha => by
      have p9 := a1 a ha
      show uN ((uI (uI (uI σ 2406 (2 * if σ.1 2406 < 256 then 256 else σ.1 2406)) 2403 0) 2404 0).1 (100 * (28 + sPi σ a) + 3)) = _
      rw [ee _ (by omega)]
    refine ⟨fun a ha => ?_, fun a k ha hk h => ?_, fun a ha => absurd ha (Nat.not_lt_zero a)⟩
    · have ha' : a < uN (σ.1 2404) := ha.elim (fun z => absurd z (Nat.not_lt_zero a)) (fun z => z.2)
      rw [e9 a (by omega), ee 2407 (by decide)]
      exact ⟨(a5 a ha').1, (a5 a ha').2.1⟩
    · have ha' : a < uN (σ.1 2404) := ha.elim (fun z => absurd z (Nat.not_lt_zero a)) (fun z => z.2)
      have hk' : k < uN (σ.1 2404) := hk.elim (fun z => absurd z (Nat.not_lt_zero k)) (fun z => z.2)
      rw [e9 a (by omega), e9 k (by omega)]
      exact (a5 a ha').2.2 k h hk'
  · exact SvF_t (SvF_t (SvF_i σ (by decide) _) (SvF_i _ (by decide) _)) (SvF_i _ (by decide) _)
  · rw [uI_o (by decide), uI_o (by decide), uI_o (by decide)]
  · rw [uI_o (by decide), uI_o (by decide), uI_s]; rfl
  · rw [uI_o (by decide), uI_o (by decide), uI_o (by decide)]
end CUB
