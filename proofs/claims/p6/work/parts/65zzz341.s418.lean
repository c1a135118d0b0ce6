/-! The class: runs are saved. -/
section CUC
variable {g g' g2 : Nat → Prop} {l l' l2 : List Nat} {t t' t2 : Nat} {σ σ' σ2 τ τ' : CS} {L : LV} {x y z i : Int32} {M M' U U' : Nat → Int32} {K K' K0 K2 K2' K3 K3' K4 K4' KB : Nat → Option Int32} {c : Ct} {B f0 u0 a T : Nat} {fs : List FrT} {u d : Nat} {r r' : List Nat} {pb nf nc sq rk : Nat}
/-- the run in hand is one that may be saved -/
def RnO (c : Ct) (K K2 : Nat → Option Int32) (σ : CS) : Prop := RUN c K (uN (σ.1 1900)) (uN (σ.1 1901)) (uN (σ.1 1902)) (uN (σ.1 1908)) 0 ∧ (σ.1 1907 = 0 ∧ uN (σ.1 1905) ≤ 60000) ∧ (uN (σ.1 1913) ≤ 44200 ∧ uN (σ.1 1912) ≤ 20 ∧ uN (σ.1 1914) ≤ 1000000 ∧ uN (σ.1 1915) ≤ 2000000000 ∧ uN (σ.1 1902) ≤ sN σ 20 ∧ uN (σ.1 1913) ≤ sN σ 21) ∧ POK c K2 (sN σ 20) (uN (σ.1 1912)) (uN (σ.1 1913))
theorem RnO_e (h : RnO c K K2 σ) (a : SvF σ τ) : RnO c K K2 τ := by
  unfold RnO
  rw [a.1 1900 (by decide), a.1 1901 (by decide), a.1 1902 (by decide), a.1 1908 (by decide), a.1 1907 (by decide), a.1 1905 (by decide), a.1 1913 (by decide), a.1 1912 (by decide), a.1 1914 (by decide), a.1 1915 (by decide), a.2.2.2.1 20 (by decide), a.2.2.2.1 21 (by decide)]
  exact h
def K9 (K3 K K2 : Nat → Option Int32) (F S : Nat) : Nat → Option Int32 := fun j => if j < F then K3 j else if j < F + S then K (j - F) else K2 (j - F - S)
theorem K9_l {F S j : Nat} (h : j < F) : K9 K3 K K2 F S j = K3 j := if_pos h
theorem K9_m {F S j : Nat} (h : j < S) : K9 K3 K K2 F S (F + j) = K j := by
  unfold K9
  rw [if_neg (by omega), if_pos (by omega), show F + j - F = j by omega]
theorem K9_h {F S j : Nat} : K9 K3 K K2 F S (F + S + j) = K2 j := by
  unfold K9
  rw [if_neg (by omega), if_neg (by omega), show F + S + j - F - S = j by omega]
/-- the one stored -/
theorem St_n {q : RS} (so : StO σ a q) (rn : RnO c K K2 σ) : SvR c (K9 K3 K K2 (uN (σ.1 2403)) (uN (σ.1 1902))) q.2.1 (sPi σ a) (uN (σ.1 2403)) := by
  obtain ⟨s1, s2, sf, s4, s5, s6, s7, s8, s9, s10, s11, s12⟩ := so
  have e0 : q.2.1.1 (100 * (28 + sPi σ a) + 0) = σ.1 1900 := s8 0 (by decide)
  have e1 : q.2.1.1 (100 * (28 + sPi σ a) + 1) = σ.1 1901 := s8 1 (by decide)
  have e2 : q.2.1.1 (100 * (28 + sPi σ a) + 2) = σ.1 1902 := s8 2 (by decide)
  have e8 : q.2.1.1 (100 * (28 + sPi σ a) + 8) = σ.1 1908 := s8 8 (by decide)
  have e7 : q.2.1.1 (100 * (28 + sPi σ a) + 7) = σ.1 1907 := s8 7 (by decide)
  have e5 : q.2.1.1 (100 * (28 + sPi σ a) + 5) = σ.1 1905 := s8 5 (by decide)
  have e13 : q.2.1.1 (100 * (28 + sPi σ a) + 13) = σ.1 1913 := s8 13 (by decide)
  have e12 : q.2.1.1 (100 * (28 + sPi σ a) + 12) = σ.1 1912 := s8 12 (by decide)
  have e14 : q.2.1.1 (100 * (28 + sPi σ a) + 14) = σ.1 1914 := s8 14 (by decide)
  have e15 : q.2.1.1 (100 * (28 + sPi σ a) + 15) = σ.1 1915 := s8 15 (by decide)
  unfold SvR
  rw [e0, e1, e2, e8, e7, e5, e13, e12, e14, e15, sf.2.2.2.1 20 (by decide), sf.2.2.2.1 21 (by decide)]
  exact ⟨RUN_eq rn.1 (fun p hp => K9_m hp), rn.2.1, rn.2.2.1, POK_eq (Nat.le_refl _) _ _ (fun p _ => K9_h) rn.2.2.2⟩
/-- the others -/
theorem St_o {q : RS} {k s : Nat} (so : StO σ a q) (ha : a < 9) (hk : k < 9) (ne : ¬ k = a) (hp : ∀ i, i < 9 → sPi σ i < 9) (hi : ∀ i j, i < 9 → j < 9 → sPi σ i = sPi σ j → i = j) (h : SvR c K3 σ (sPi σ k) s) (hs : s + uN (σ.1 (100 * (28 + sPi σ k) + 2)) + uN (σ.1 (100 * (28 + sPi σ k) + 13)) ≤ uN (σ.1 2403)) : SvR c (K9 K3 K K2 (uN (σ.1 2403)) (uN (σ.1 1902))) q.2.1 (sPi σ k) s := by
  obtain ⟨s1, s2, sf, s4, s5, s6, s7, s8, s9, s10, s11, s12⟩ := so
  exact SvR_m h (fun j hj => s7 _ j (hp k hk) (fun e => ne (hi k a hk ha e)) (by omega)) (sf.2.2.2.1 20 (by decide)) (sf.2.2.2.1 21 (by decide)) (fun j hj => K9_l (by omega))
theorem St_w {q : RS} (so : StO σ a q) (r26 : Rwk g (σ.2.2.1 3) K3 (σ.2.2.1 26) (uN (σ.1 2403))) (r20 : Rwk g (σ.2.2.1 3) K (σ.2.2.1 20) (uN (σ.1 1902))) (r21 : Rwk g (σ.2.2.1 3) K2 (σ.2.2.1 21) (uN (σ.1 1913))) : Rwk g (q.2.1.2.2.1 3) (K9 K3 K K2 (uN (σ.1 2403)) (uN (σ.1 1902))) (q.2.1.2.2.1 26) (uN (σ.1 2403) + uN (σ.1 1902) + uN (σ.1 1913)) := by
  obtain ⟨s1, s2, sf, s4, s5, s6, s7, s8, s9, s10, s11, s12⟩ := so
  rw [sf.2.2.1 3 (by decide)]
  intro j hj
  rcases Nat.lt_or_ge j (uN (σ.1 2403)) with h | h
  · rw [K9_l h, s10 j h]; exact r26 j h
  · rcases Nat.lt_or_ge j (uN (σ.1 2403) + uN (σ.1 1902)) with h2 | h2
    · have e : j = uN (σ.1 2403) + (j - uN (σ.1 2403)) := by omega
      have z := r20 (j - uN (σ.1 2403)) (by omega)
      rw [e, K9_m (by omega), s11 _ (by omega)]; exact z
    · have e : j = uN (σ.1 2403) + uN (σ.1 1902) + (j - (uN (σ.1 2403) + uN (σ.1 1902))) := by omega
      have z := r21 (j - (uN (σ.1 2403) + uN (σ.1 1902))) (by omega)
      rw [e, K9_h, s12 _ (by omega)]; exact z
/-- between instructions, with other saves -/
theorem MIn_9 (mi : MIn c g l t K K2 K3 K4 B KB σ) (a : SvF σ τ) (svk : SVK c K3' τ) (v : uN (usI τ) ≤ sN τ 26 ∧ sN τ 26 ≤ 20000 ∧ Rwk g (τ.2.2.1 3) K3' (τ.2.2.1 26) (uN (usI τ))) : MIn c g l t K K2 K3' K4 B KB τ := by
  have e := a.1
  have n20 := a.2.2.2.1 20 (by decide)
  have n21 := a.2.2.2.1 21 (by decide)
  obtain ⟨m1, ⟨v1, v2, v3, v4, v5, v6, v7, v8⟩, m3, m4, m5, m6, m7, m8, m9, m10, m11⟩ := mi
  refine ⟨HQ_ft m1 (e 1 (by decide)) (a.2.2.1 3 (by decide)) (a.2.2.2.1 3 (by decide)) (a.2.2.2.1 1 (by decide)) (a.2.2.2.1 2 (by decide)), ⟨?_, ?_, ?_, ?_, svk.2.1 8 (by decide), v.1, v.2.1, v.2.2⟩, CtL_M m3 (SvF_M a), ?_, svk, m6, ?_, ?_, ?_, ?_, ?_⟩
  · rw [e 1902 (by decide), n20, a.2.2.1 20 (by decide), a.2.2.1 3 (by decide)]; exact v1
  · rw [a.2.2.1 23 (by decide), a.2.2.1 3 (by decide)]; exact v2
  · rw [e 1913 (by decide), n21, a.2.2.1 21 (by decide), a.2.2.1 3 (by decide)]; exact v3
  · rw [a.2.2.1 67 (by decide), a.2.2.1 3 (by decide)]; exact v4
  · rw [e 1912 (by decide), e 1913 (by decide), n20]; exact m4
  · rw [e 1902 (by decide)]; exact m7
  · rw [e 1903 (by decide), e 1814 (by decide)]; exact m8
  · rw [e 1912 (by decide)]; exact m9
  · rw [e 1914 (by decide)]; exact m10
  · rw [e 1915 (by decide)]; exact m11
theorem MIn_8 (mi : MIn c g l t K K2 K3 K4 B KB σ) (a : SvF σ τ) (sv : SV8 c g K3' τ) (h5 : τ.1 2405 = 0) : MIn c g l t K K2 K3' K4 B KB τ := by
  obtain ⟨⟨h1, h2, h3⟩, a1, a2, a3, a4, a5⟩ := sv
  have us : usI τ = τ.1 2403 := if_pos h5
  exact MIn_9 mi a ⟨⟨⟨h1, by omega⟩, a5, fun n => absurd h5 n⟩, a1, a2, a3, fun n => absurd h5 n⟩ ⟨by rw [us]; exact h2, h3, by rw [us]; exact a4⟩
theorem SV8_of (mi : MIn c g l t K K2 K3 K4 B KB σ) : SV8 c g K3 σ := by
  obtain ⟨m1, ⟨v1, v2, v3, v4, v5, v6, v7, v8⟩, m3, m4, ⟨⟨⟨s1, s2⟩, s3, s3'⟩, s4, s5, s6, s7⟩, m6⟩ := mi
  have us : uN (σ.1 2403) ≤ uN (usI σ) := by
    unfold usI
    by_cases h : σ.1 2405 = 0
    · rw [if_pos h]; exact Nat.le_refl _
    · have z := (s7 h).2.2
      rw [if_neg h, u_add (by rw [u_add (by omega)]; omega), u_add (by omega)]
      omega
  exact ⟨⟨s1, by omega, v7⟩, s4, s5, s6, fun j hj => v8 j (by omega), s3⟩
/-- other fields -/
theorem SV8_e (h : SV8 c g K3 σ) (e : ∀ j, ¬ (j = 2405 ∨ j = 2406 ∨ j = 2407) → τ.1 j = σ.1 j) (e2 : τ.2 = σ.2) (le : uN (σ.1 2407) ≤ uN (τ.1 2407)) : SV8 c g K3 τ := by
  obtain ⟨⟨h1, h2, h3⟩, a1, a2, a3, a4, a5⟩ := h
  have ep : ∀ i, sPi τ i = sPi σ i := fun i => by show τ.2.2.2.2.2.2 i = _; rw [e2]
  have en : ∀ k, sN τ k = sN σ k := fun k => by show τ.2.2.2.2.1 k = _; rw [e2]
  have er : ∀ k, τ.2.2.1 k = σ.2.2.1 k := fun k => by rw [e2]
  have ef : ∀ p j, p < 9 → τ.1 (100 * (28 + p) + j) = σ.1 (100 * (28 + p) + j) := fun p j hp => e _ (by omega)
  have e8 : ∀ i, i < 9 → en8 τ i = en8 σ i ∧ bg8 τ i = bg8 σ i := fun i hi => by
    have p9 := a1 i hi
    unfold en8 bg8
    rw [er, ep, ef _ _ p9, ef _ _ p9, ef _ _ p9]
    exact ⟨rfl, rfl⟩
  have e4 := e 2404 (by decide)
  have e3 := e 2403 (by decide)
  refine ⟨⟨by rw [e4]; exact h1, by rw [e3, en]; exact h2, by rw [en]; exact h3⟩, fun i hi => by rw [ep]; exact a1 i hi, fun i j hi hj z => a2 i j hi hj (by rw [ep, ep] at z; exact z), fun i hi => ?_, by rw [er, er, e3]; exact a4, fun i hi => ?_⟩
  · rw [e4] at hi
    have z := a3 i hi
    refine ⟨?_, by rw [(e8 i (by omega)).1, e3]; exact z.2.1, fun k k1 k2 => ?_⟩
    · rw [ep, er]
      exact SvR_m z.1 (fun j _ => ef _ _ (a1 i (by omega))) (en 20) (en 21) (fun _ _ => rfl)
    · rw [e4] at k2
      rw [(e8 i (by omega)).1, er]
      exact z.2.2 k k1 k2
  · rw [e4] at hi
    have z := a5 i hi
    rw [(e8 i (by omega)).2]
    refine ⟨by have := z.1; omega, z.2.1, fun k k1 k2 => ?_⟩
    rw [e4] at k2
    rw [(e8 k (by omega)).2]
    exact z.2.2 k k1 k2
/-- multiples of a wide gap are few -/
theorem mg8 {x y w : Nat} (hx : x % w = 0) (hy : y % w = 0) (h : x < y) : x + w ≤ y := by
  have e1 := Nat.div_add_mod x w
  have e2 := Nat.div_add_mod y w
  rw [hx] at e1
  rw [hy] at e2
  have lt : x / w < y / w := by
    rcases Nat.lt_or_ge (x / w) (y / w) with z | z
    · exact z
    · have q := Nat.mul_le_mul_left w z
      omega
  have q := Nat.mul_le_mul_left w lt
  rw [Nat.mul_succ] at q
  omega
theorem few8 (b : B8 σ) {w : Nat} (hd : ∀ a, a < uN (σ.1 2404) → bg8 σ a % w = 0) (hw : 2097152 ≤ w) : uN (σ.1 2404) ≤ 5 := by
  rcases Nat.lt_or_ge 5 (uN (σ.1 2404)) with h | h
  · exfalso
    have s0 := mg8 (hd 0 (by omega)) (hd 1 (by omega)) ((b 0 (by omega)).2.2 1 (by decide) (by omega))
    have s1 := mg8 (hd 1 (by omega)) (hd 2 (by omega)) ((b 1 (by omega)).2.2 2 (by decide) (by omega))
    have s2 := mg8 (hd 2 (by omega)) (hd 3 (by omega)) ((b 2 (by omega)).2.2 3 (by decide) (by omega))
    have s3 := mg8 (hd 3 (by omega)) (hd 4 (by omega)) ((b 3 (by omega)).2.2 4 (by decide) (by omega))
    have s4 := mg8 (hd 4 (by omega)) (hd 5 (by omega)) ((b 4 (by omega)).2.2 5 (by decide) (by omega))
    have s5 := (b 5 (by omega)).2.1
    omega
  · exact h
theorem nx8 {x w : Int32} (hx : uN x ≤ 10240000) (h0 : 256 ≤ uN w) (hw : uN w < 2147483648) : uN x < uN ((x / w + 1) * w) := by
  have d := u_div (x := x) (y := w) (by omega) (by omega) hw
  have le := Nat.div_mul_le_self (uN x) (uN w)
  have le2 := Nat.div_le_self (uN x) (uN w)
  have i : uN (x / w + 1) = uN x / uN w + 1 := by rw [u_inc (by rw [d]; omega), d]
  have m : (uN x / uN w + 1) * uN w = uN x / uN w * uN w + uN w := Nat.succ_mul _ _
  rw [u_mulN (by rw [i, m]; omega), i, Nat.mul_comm]
  exact Nat.lt_mul_div_succ _ (by omega)
end CUC
