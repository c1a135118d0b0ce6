/-! The class: a saved run is taken up again. -/
section CUL
variable {g g' g2 : Nat → Prop} {l l' l2 : List Nat} {t t' t2 : Nat} {σ σ' σ2 τ τ' φ : CS} {L : LV} {x y z i : Int32} {M M' U U' : Nat → Int32} {K K' K0 K2 K2' K3 K3' K4 K4' KB : Nat → Option Int32} {c : Ct} {B f0 u0 a T : Nat} {fs : List FrT} {u d : Nat} {r r' : List Nat} {pb nf nc sq rk : Nat}
/-- so many fields of a run were taken -/
def Cpb (σ : CS) (p n : Nat) (τ : CS) : Prop := (∀ j, ¬ (1900 ≤ j ∧ j < 1916) → τ.1 j = σ.1 j) ∧ (∀ i, i < n → τ.1 (1900 + i) = σ.1 (100 * (28 + p) + i)) ∧ τ.2 = σ.2
theorem Cpb_1 {p n : Nat} (hn : n < 16) (h : Cpb σ p n τ) (hv : x = τ.1 (100 * (28 + p) + n)) : Cpb σ p (n + 1) (uI τ (1900 + n) x) := by
  refine ⟨fun j hj => ?_, fun i hi => ?_, h.2.2⟩
  · rw [uI_o (by omega)]
    exact h.1 j hj
  · by_cases e : i = n
    · rw [e, uI_s, hv]
      exact h.1 _ (by omega)
    · rw [uI_o (by omega)]
      exact h.2.1 i (by omega)
theorem c_copyBack {p : Nat} (hp : p < 9) (h0 : L.2.2.2 1 = p) : Tm (fun k => y_X8_copyFrom__a19__R k 0 L σ) (fun q => (∀ j, ¬ (1900 ≤ j ∧ j < 1916) → q.2.1 j = σ.1 j) ∧ (∀ i, i < 16 → q.2.1 (1900 + i) = σ.1 (100 * (28 + p) + i)) ∧ ∃ v, q.2.2 = (uL σ 1916 v).2) := by
  have b5 : ∀ τ, Cpb σ p 15 τ → Tm (fun k => y_X8_copyFrom__a19__R k 5 L τ) (fun q => (∀ j, ¬ (1900 ≤ j ∧ j < 1916) → q.2.1 j = σ.1 j) ∧ (∀ i, i < 16 → q.2.1 (1900 + i) = σ.1 (100 * (28 + p) + i)) ∧ ∃ v, q.2.2 = (uL σ 1916 v).2) := by
    intro τ h
    refine Tm_suc (fun k => by rw [y_X8_copyFrom__a19__R]) ?_
    rw [h0]
    refine Tm_chk hp (Tm_chk hp ?_)
    have z := Cpb_1 (n := 15) (by decide) h rfl
    refine Tm_some ⟨z.1, z.2.1, σ.2.1 (100 * (28 + p) + 16), ?_⟩
    show (updW τ.2.1 1916 (τ.2.1 (100 * (28 + p) + 16)), τ.2.2) = (updW σ.2.1 1916 (σ.2.1 (100 * (28 + p) + 16)), σ.2.2)
    rw [h.2.2]
  have b4 : ∀ τ, Cpb σ p 12 τ → Tm (fun k => y_X8_copyFrom__a19__R k 4 L τ) (fun q => (∀ j, ¬ (1900 ≤ j ∧ j < 1916) → q.2.1 j = σ.1 j) ∧ (∀ i, i < 16 → q.2.1 (1900 + i) = σ.1 (100 * (28 + p) + i)) ∧ ∃ v, q.2.2 = (uL σ 1916 v).2) := by
    intro τ h
    refine Tm_suc (fun k => by rw [y_X8_copyFrom__a19__R]) ?_
    rw [h0]
    refine Tm_chk hp (Tm_chk hp (Tm_chk hp ?_))
    exact b5 _ (Cpb_1 (n := 14) (by decide) (Cpb_1 (n := 13) (by decide) (Cpb_1 (n := 12) (by decide) h rfl) rfl) rfl)
  have b3 : ∀ τ, Cpb σ p 9 τ → Tm (fun k => y_X8_copyFrom__a19__R k 3 L τ) (fun q => (∀ j, ¬ (1900 ≤ j ∧ j < 1916) → q.2.1 j = σ.1 j) ∧ (∀ i, i < 16 → q.2.1 (1900 + i) = σ.1 (100 * (28 + p) + i)) ∧ ∃ v, q.2.2 = (uL σ 1916 v).2) := by
    intro τ h
    refine Tm_suc (fun k => by rw [y_X8_copyFrom__a19__R]) ?_
    rw [h0]
    refine Tm_chk hp (Tm_chk hp (Tm_chk hp ?_))
    exact b4 _ (Cpb_1 (n := 11) (by decide) (Cpb_1 (n := 10) (by decide) (Cpb_1 (n := 9) (by decide) h rfl) rfl) rfl)
  have b2 : ∀ τ, Cpb σ p 6 τ → Tm (fun k => y_X8_copyFrom__a19__R k 2 L τ) (fun q => (∀ j, ¬ (1900 ≤ j ∧ j < 1916) → q.2.1 j = σ.1 j) ∧ (∀ i, i < 16 → q.2.1 (1900 + i) = σ.1 (100 * (28 + p) + i)) ∧ ∃ v, q.2.2 = (uL σ 1916 v).2) := by
    intro τ h
    refine Tm_suc (fun k => by rw [y_X8_copyFrom__a19__R]) ?_
    rw [h0]
    refine Tm_chk hp (Tm_chk hp (Tm_chk hp ?_))
    exact b3 _ (Cpb_1 (n := 8) (by decide) (Cpb_1 (n := 7) (by decide) (Cpb_1 (n := 6) (by decide) h rfl) rfl) rfl)
  have b1 : ∀ τ, Cpb σ p 3 τ → Tm (fun k => y_X8_copyFrom__a19__R k 1 L τ) (fun q => (∀ j, ¬ (1900 ≤ j ∧ j < 1916) → q.2.1 j = σ.1 j) ∧ (∀ i, i < 16 → q.2.1 (1900 + i) = σ.1 (100 * (28 + p) + i)) ∧ ∃ v, q.2.2 = (uL σ 1916 v).2) := by
    intro τ h
    refine Tm_suc (fun k => by rw [y_X8_copyFrom__a19__R]) ?_
    rw [h0]
    refine Tm_chk hp (Tm_chk hp (Tm_chk hp ?_))
    exact b2 _ (Cpb_1 (n := 5) (by decide) (Cpb_1 (n := 4) (by decide) (Cpb_1 (n := 3) (by decide) h rfl) rfl) rfl)
  have h : Cpb σ p 0 σ := ⟨fun _ _ => rfl, fun i hi => absurd hi (Nat.not_lt_zero i), rfl⟩
  refine Tm_suc (fun k => by rw [y_X8_copyFrom__a19__R]) ?_
  rw [h0]
  refine Tm_chk hp (Tm_chk hp (Tm_chk hp ?_))
  exact b1 _ (Cpb_1 (n := 2) (by decide) (Cpb_1 (n := 1) (by decide) (Cpb_1 (n := 0) (by decide) h rfl) rfl) rfl)
end CUL
