/-! An exp is laid behind the program, worked, and forgotten (reference): tables, what stays. -/
/-- the tables with an exp laid behind them -/
def Tw (T : Nat → Nat → Int32) (b' : BT) (ρ : MS) (a i : Nat) : Int32 := if a = 98 then (if i = 1 then nI b'.1 else if i = 2 then nI b'.2.1 else T 98 i) else if a = 20 then (if 2520 ≤ i then b'.2.2.2.2 i else T 20 i) else if (4 ≤ a ∧ a ≤ 9) ∨ a = 12 then ρ.2.2 a i else T a i
section TWS
variable {T : Nat → Nat → Int32} {FN : Nat → Nat → Prop} {σ ρ ω τ : MS} {b b' : BT} {M P : Nat}
theorem Tw_t {a i : Nat} (h : (4 ≤ a ∧ a ≤ 9) ∨ a = 12) : Tw T b' ρ a i = ρ.2.2 a i := by
  unfold Tw
  rw [if_neg (by omega), if_neg (by omega), if_pos h]
theorem Tw_N (h : b'.1 ≤ 70000) : LNo (Tw T b' ρ) % 70001 = b'.1 := by
  show (nI b'.1).toNatClampNeg % 70001 = b'.1
  rw [n_cl (p := b'.1) (by omega)]
  exact Nat.mod_eq_of_lt (by omega)
theorem Tw_P (h : b'.2.1 ≤ 70000) : LPo (Tw T b' ρ) % 70001 = b'.2.1 := by
  show (nI b'.2.1).toNatClampNeg % 70001 = b'.2.1
  rw [n_cl (p := b'.2.1) (by omega)]
  exact Nat.mod_eq_of_lt (by omega)
theorem STb_w (hS : STb T FN σ) (hX : FrX M P σ ρ) (hB : PB ρ b') (eM : LNo T % 70001 = M) (eP : LPo T % 70001 = P) (h1 : M ≤ b'.1) (h2 : P ≤ b'.2.1) (h3 : b'.1 ≤ 70000) (h4 : b'.2.1 ≤ 70000) : STb (Tw T b' ρ) FN ρ := by
  obtain ⟨s1, s2, s3, s4, s5, s6, s7⟩ := hS
  obtain ⟨x1, x2, x3, x4, x5, x6, x7⟩ := hX
  obtain ⟨p1, p2, p3, p4, p5⟩ := hB
  refine ⟨fun a i a4 a11 hi => ?_, fun fn m z => ?_, fun i hi => (Tw_t (Or.inr rfl)).symm, ?_, ?_, (x1 30 (by omega)).trans s6, (x1 44 (by omega)).trans s7⟩
  · by_cases c : a ≤ 9
    · exact (Tw_t (Or.inl ⟨a4, c⟩)).symm
    · unfold Tw
      rw [if_neg (by omega), if_neg (by omega), if_neg (by omega), x3 a (by omega)]
      exact s1 a i a4 a11 ⟨fun z => absurd z c, fun z => hi.2 z⟩
  · obtain ⟨z1, z2, z3, F, e, z4, z5, z6⟩ := s2 fn m z
    refine ⟨z1, z2, by rw [x3 18 (by decide)]; exact z3, F, e, by rw [x3 17 (by decide)]; exact z4, ?_, ?_⟩
    · rw [Tw_N h3]; omega
    · refine WN_tb (fun a i a4 a9 hi => ?_) (fun i hi => ?_) (by rw [Tw_N h3]; omega) (by rw [Tw_P h4]; omega) F 0 20 14 60 lcF _ z6
      · rw [Tw_t (Or.inl ⟨a4, a9⟩), x4 a a4 a9 i hi.1 (by omega)]
        exact s1 a i a4 (by omega) ⟨fun _ => hi, fun z => by omega⟩
      · rw [Tw_t (Or.inr rfl), x5 i (by omega)]
        exact s3 i hi
  · rw [Tw_N h3]; exact p1
  · rw [Tw_P h4]; exact p3
theorem Agr_w {vv e : Nat} (hB : PB ρ b') (hM : 1 ≤ M) (h3 : b'.1 ≤ 70000) (h4 : b'.2.1 ≤ 70000) : Agr (Tw T b' ρ) 42 vv b' M e := by
  obtain ⟨p1, p2, p3, p4, p5⟩ := hB
  refine ⟨fun a i a4 a9 hi hb _ => ?_, fun i hi => ?_, fun s _ => ?_, by rw [Tw_N h3]; exact Nat.le_refl _, by rw [Tw_P h4]; exact Nat.le_refl _⟩
  · rw [Tw_t (Or.inl ⟨a4, a9⟩)]; exact p4 a a4 a9 i (by omega) hb
  · rw [Tw_t (Or.inr rfl)]; exact p5 i hi
  · unfold Tw
    rw [if_neg (by decide), if_pos rfl, if_pos (by omega)]
theorem lcW_n {fl : Nat → Prop} {T' : Nat → Nat → Int32} : ∀ s, s < 60 → ¬ lcW fl 42 T' (1 + s) := by
  intro s hs h
  rcases h with h | h | h | h
  · omega
  · omega
  · omega
  · omega
theorem Qt_w {fl : Nat → Prop} {T' : Nat → Nat → Int32} {dr : Bool} (h0 : ¬ fl 200) (h1 : fl 201 → dr = true) : Qt dr (lcW fl 42 T') := by
  constructor
  · intro h
    rcases h with h | h | h | h
    · omega
    · omega
    · omega
    · exact h0 h.2
  · intro h
    rcases h with h | h | h | h
    · omega
    · omega
    · omega
    · exact h1 h.2
theorem kv_n (h : kv ρ = kv σ) : (∀ j, (63 ≤ j ∧ j ≤ 66) ∨ (102 ≤ j ∧ j ≤ 106) ∨ j = 110 ∨ j = 112 ∨ j = 30 ∨ j = 44 → ρ.1 j = σ.1 j) ∧ (∀ a, 1 ≤ a → a ≤ 21 → ρ.2.2 a = σ.2.2 a) ∧ ρ.2.1 113 = σ.2.1 113 := by
  unfold kv at h
  simp only [Prod.mk.injEq] at h
  obtain ⟨l113, n2, n4, n11, n22, n24, n25, n30, n31, n44, n63, n64, n65, n66, n73, n79, n102, n103, n104, n105, n106, n108, n109, n110, n111, n112, n115, n120, r1, r2, r3, r4, r5, r6, r7, r8, r9, r10, r11, r12, r13, r14, r15, r16, r17, r18, r19, r20, r21, _⟩ := h
  refine ⟨fun j hj => ?_, fun a h1 h2 => ?_, l113⟩
  · have : j = 63 ∨ j = 64 ∨ j = 65 ∨ j = 66 ∨ j = 102 ∨ j = 103 ∨ j = 104 ∨ j = 105 ∨ j = 106 ∨ j = 110 ∨ j = 112 ∨ j = 30 ∨ j = 44 := by omega
    rcases this with rfl | rfl | rfl | rfl | rfl | rfl | rfl | rfl | rfl | rfl | rfl | rfl | rfl <;> assumption
  · have : a = 1 ∨ a = 2 ∨ a = 3 ∨ a = 4 ∨ a = 5 ∨ a = 6 ∨ a = 7 ∨ a = 8 ∨ a = 9 ∨ a = 10 ∨ a = 11 ∨ a = 12 ∨ a = 13 ∨ a = 14 ∨ a = 15 ∨ a = 16 ∨ a = 17 ∨ a = 18 ∨ a = 19 ∨ a = 20 ∨ a = 21 := by omega
    rcases this with rfl | rfl | rfl | rfl | rfl | rfl | rfl | rfl | rfl | rfl | rfl | rfl | rfl | rfl | rfl | rfl | rfl | rfl | rfl | rfl | rfl <;> assumption
/-- a value of the run, behind it -/
theorem AE_v {a i : Nat} (hU : UT σ) (h63 : ρ.1 63 = σ.1 63) (r28 : ρ.2.2 28 = σ.2.2 28) (r30 : ρ.2.2 30 = σ.2.2 30) (r31 : ρ.2.2 31 = σ.2.2 31) (hc : ρ.1 30 = σ.1 30) (h21 : ∀ i, i ≠ 42 → ρ.2.2 21 i = σ.2.2 21 i) (h20 : ∀ i, i < 2520 ∨ 2580 ≤ i → ρ.2.2 20 i = σ.2.2 20 i) (hF : FE (zA ρ) τ) (z : (a = 30 ∧ StI (σ.2.2 30) 0 i) ∨ (a = 31 ∧ ∃ p, p < (σ.1 63).toNatClampNeg ∧ StI (σ.2.2 31) (11514 * p) i)) : szV τ a i = szV σ a i ∧ SVb σ τ a i := by
  have s63 : (zA ρ).1 63 = σ.1 63 := (zA_s (by omega)).trans h63
  have q28 : (zA ρ).2.2 28 = σ.2.2 28 := r28
  have q30 : (zA ρ).2.2 30 = σ.2.2 30 := r30
  have q31 : (zA ρ).2.2 31 = σ.2.2 31 := r31
  have qa : (zA ρ).2.2 a = σ.2.2 a := by
    rcases z with z | z
    · rw [z.1]; exact q30
    · rw [z.1]; exact q31
  have hR : Rt4 (zA ρ) a i := by
    rcases z with ⟨z1, z2⟩ | ⟨z1, p, hp, z2⟩
    · exact Or.inl ⟨z1, by rw [q30]; exact z2⟩
    · exact Or.inr (Or.inl ⟨z1, p, by rw [s63]; exact hp, by rw [q31]; exact z2⟩)
  rcases hF.2.2.2 a i hR (fun z => z) with ⟨y1, _, y3⟩ | ⟨y1, y2⟩
  · unfold szV at y1 ⊢
    unfold SVb at y3 ⊢
    rw [q28, qa] at y1 y3
    exact ⟨y1, y3⟩
  · obtain ⟨_, P, _, _, _, _, _, o1, _⟩ := hU
    have k : kC (zA ρ) = kC σ := funext (kC_d (fun i hi => h20 i (Or.inl hi)) (fun i hi => h21 i (by omega)) ((zA_s (by omega)).trans hc))
    rcases z with ⟨z1, z2⟩ | ⟨z1, _⟩
    · subst z1
      have nu : NUa (kC σ) (σ.2.2 30) 0 i := by
        have := NU_a.mp y2
        rw [k, q30] at this
        exact this
      have v0 : σ.2.2 30 i = 0 := o1 i z2 nu
      have z0 : (0 : Int32).toNatClampNeg = 0 := by decide
      constructor
      · unfold szV szN kdN
        rw [y1, v0, z0]
        simp
      · refine Or.inl ?_
        rw [y1, v0, z0]
        exact EVb_0 (by decide)
    · exfalso
      rcases y2 with y | ⟨y, _⟩
      · omega
      · omega
/-- a run is left alone: an exp was laid, worked, perhaps shown -/
theorem AE_of (hU : UT σ) (hn : ∀ j, (63 ≤ j ∧ j ≤ 66) ∨ (102 ≤ j ∧ j ≤ 106) ∨ j = 110 ∨ j = 112 ∨ j = 95 ∨ j = 30 ∨ j = 44 → ρ.1 j = σ.1 j) (hl : ρ.2.1 = σ.2.1) (hr : ∀ j, ¬ ((4 ≤ j ∧ j ≤ 9) ∨ j = 12 ∨ (20 ≤ j ∧ j ≤ 27)) → ρ.2.2 j = σ.2.2 j) (h4 : ∀ j, 4 ≤ j → j ≤ 9 → ∀ i, 1 ≤ i → i < (σ.1 22).toNatClampNeg → ρ.2.2 j i = σ.2.2 j i) (h12 : ∀ i, i < (σ.1 24).toNatClampNeg → ρ.2.2 12 i = σ.2.2 12 i) (h21 : ∀ i, i ≠ 42 → ρ.2.2 21 i = σ.2.2 21 i) (h20 : ∀ i, i < 2520 ∨ 2580 ≤ i → ρ.2.2 20 i = σ.2.2 20 i) (hF : FE (zA ρ) τ) (hUt : UT τ) (hk : kv τ = kv ρ) (h95 : τ.1 95 = ρ.1 95) (wn : ∀ j, (63 ≤ j ∧ j ≤ 66) ∨ (102 ≤ j ∧ j ≤ 106) ∨ j = 110 ∨ j = 112 ∨ j = 95 ∨ j = 68 ∨ j = 30 ∨ j = 44 → ω.1 j = τ.1 j) (wr : ∀ a, (1 ≤ a ∧ a ≤ 21) ∨ a = 28 ∨ (30 ≤ a ∧ a ≤ 33) → ω.2.2 a = τ.2.2 a) (w113 : ω.2.1 113 = τ.2.1 113) (w22 : ω.1 22 = σ.1 22) (w24 : ω.1 24 = σ.1 24) (w96 : ω.2.1 96 = σ.2.1 96) : AEq σ ω := by
  obtain ⟨k1, k2, k3⟩ := kv_n hk
  have t68 : τ.1 68 = 0 := by
    have := hF.1 68 (by unfold AlS; omega) (by decide) (by decide) (by decide)
    rw [this]; rfl
  have st : ∀ a i, 30 ≤ a → a ≤ 32 → ¬ Zn a i → τ.2.2 a i = σ.2.2 a i := fun a i h1 h2 hz => by
    have e := hF.2.1 a i (by unfold AlR; omega) hz (by omega)
    have e2 : (zA ρ).2.2 a i = ρ.2.2 a i := rfl
    rw [e, e2, hr a (by omega)]
  have wv : ∀ a i, (a = 30 ∧ StI (σ.2.2 30) 0 i) ∨ (a = 31 ∧ ∃ p, p < (σ.1 63).toNatClampNeg ∧ StI (σ.2.2 31) (11514 * p) i) → szV ω a i = szV σ a i ∧ SVb σ ω a i := fun a i z => by
    have v := AE_v hU (hn 63 (by omega)) (hr 28 (by decide)) (hr 30 (by decide)) (hr 31 (by decide)) (hn 30 (by omega)) h21 h20 hF z
    have w28 : ω.2.2 28 = τ.2.2 28 := wr 28 (by omega)
    have wa : ω.2.2 a = τ.2.2 a := by
      rcases z with z | z
      · exact wr a (by omega)
      · exact wr a (by omega)
    unfold szV SVb at v ⊢
    rw [w28, wa]; exact v
  have tb : ∀ a i, ((a = 10 ∨ a = 11 ∨ (17 ≤ a ∧ a ≤ 21)) ∧ ¬ StU (σ.1 30) (σ.1 44) (σ.2.2 21) a i) ∨ (4 ≤ a ∧ a ≤ 9 ∧ (1 ≤ i ∧ i < (σ.1 22).toNatClampNeg)) ∨ (a = 12 ∧ i < (σ.1 24).toNatClampNeg) ∨ (a = 19 ∧ i < 8 * (σ.1 30).toNatClampNeg ∧ i % 8 < (σ.2.2 18 (i / 8)).toNatClampNeg) → ω.2.2 a i = σ.2.2 a i := fun a i hi => by
    unfold StU at hi
    rw [wr a (by omega), k2 a (by omega) (by omega)]
    by_cases c1 : 4 ≤ a ∧ a ≤ 9
    · exact h4 a c1.1 c1.2 i (by omega) (by omega)
    by_cases c2 : a = 12
    · subst c2; exact h12 i (by omega)
    by_cases c3 : a = 20
    · subst c3; exact h20 i (by omega)
    by_cases c4 : a = 21
    · subst c4; exact h21 i (by omega)
    rw [hr a (by omega)]
  have nb : ∀ j, j = 22 ∨ j = 24 ∨ (63 ≤ j ∧ j ≤ 66) ∨ j = 95 ∨ (102 ≤ j ∧ j ≤ 106) ∨ j = 110 ∨ j = 112 ∨ j = 30 ∨ j = 44 → ω.1 j = σ.1 j := fun j hj => by
    by_cases c : j = 22
    · rw [c]; exact w22
    by_cases c' : j = 24
    · rw [c']; exact w24
    rw [wn j (by omega)]
    by_cases c5 : j = 95
    · rw [c5, h95]; exact hn 95 (by omega)
    · rw [k1 j (by omega)]; exact hn j (by omega)
  have z33 : ∀ i, i < 1380 → ω.2.2 33 i = 0 := fun i hi => by
    rw [wr 33 (by omega)]
    obtain ⟨_, _, _, _, _, _, _, _, _, q3, _⟩ := hUt
    exact q3 i hi
  exact ⟨nb, (wn 68 (by omega)).trans t68, fun a i h1 h2 hz => by rw [wr a (by omega)]; exact st a i h1 h2 hz, tb, by rw [wr 2 (by omega), k2 2 (by omega) (by omega), hr 2 (by decide)], wv, z33, w96, by rw [w113, k3, hl]⟩
end TWS
