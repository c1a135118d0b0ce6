/-! An exp is worked for the asker (reference): work. -/
section WRK
variable {T : Nat → Nat → Int32} {FN : Nat → Nat → Prop} {S : Nat → Nat → Nat → Nat → Prop} {gl : List Gn} {pr : Nat → Nat} {b : BT} {ns n f : Nat} {Tp : Nat → Int32} {σ σa ρ ρ1 υ ω : MS} {t : RT} {dr : Bool} {C K : Nat → Int32} {e0 z0 x66 : Int32} {sd : Int64} {m : Nat}
/-- behind it: the run stands where it stood -/
theorem wk_end (pi : PrI T FN S gl pr b ns) (hP : PSt T FN S C K e0 z0 x66 0 sd m σ) (hg : PG gl pr b σ) (ha : ∀ j, ¬ (j = 2 ∨ j = 11) → σa.1 j = σ.1 j) (ha2 : σa.2 = σ.2) (hX : FrX b.1 b.2.1 σa ρ) (hs : ∀ j, ¬ (j = 2 ∨ j = 4 ∨ j = 11 ∨ j = 109) → ρ1.1 j = ρ.1 j) (hr : ρ1.2 = ρ.2) (hF : FE (zA ρ1) υ) (hU : UT υ) (hk : kv υ = kv ρ1) (h95 : υ.1 95 = ρ1.1 95) (wn : ∀ j, j = 25 ∨ j = 31 ∨ j = 44 ∨ j = 73 ∨ j = 111 ∨ j = 115 ∨ (63 ≤ j ∧ j ≤ 66) ∨ (102 ≤ j ∧ j ≤ 106) ∨ j = 110 ∨ j = 112 ∨ j = 95 ∨ j = 68 ∨ j = 30 → ω.1 j = υ.1 j) (wr : ∀ a, (1 ≤ a ∧ a ≤ 21) ∨ a = 28 ∨ (30 ≤ a ∧ a ≤ 33) ∨ a = 39 ∨ (52 ≤ a ∧ a ≤ 55) → ω.2.2 a = υ.2.2 a) (w113 : ω.2.1 113 = υ.2.1 113) (w22 : ω.1 22 = σ.1 22) (w24 : ω.1 24 = σ.1 24) (w96 : ω.2.1 96 = σ.2.1 96) (hM : ∃ (g : Nat → Prop) (l : List Nat) (B h X : Nat), MI 0 X g l B h ω) : PSt T FN S C K e0 z0 x66 0 sd m ω ∧ OF σ ω := by
  obtain ⟨hU0, _⟩ := PSt_UT hP
  obtain ⟨⟨hW, _, _⟩, _, ⟨_, _, _, l4, l5⟩, _⟩ := pi
  obtain ⟨x1, x2, x3, x4, x5, x6, x7⟩ := hX
  have q22 : (σ.1 22).toNatClampNeg = b.1 := by rw [hg.2.1.1, n_cl (p := b.1) (by omega)]
  have q24 : (σ.1 24).toNatClampNeg = b.2.1 := by rw [hg.2.1.2.2.1, n_cl (p := b.2.1) (by omega)]
  have rr : ∀ a, ρ1.2.2 a = ρ.2.2 a := fun a => by rw [hr]
  have sa : ∀ a, σa.2.2 a = σ.2.2 a := fun a => by rw [ha2]
  have nn : ∀ j, ¬ ((2 ≤ j ∧ j ≤ 13) ∨ j = 22 ∨ j = 24 ∨ j = 37 ∨ j = 38 ∨ j = 42 ∨ j = 43 ∨ (45 ≤ j ∧ j ≤ 48) ∨ j = 52 ∨ j = 109) → ρ1.1 j = σ.1 j := fun j hj => (hs j (by omega)).trans ((x1 j (by omega)).trans (ha j (by omega)))
  have h3 : ∀ j, ¬ ((4 ≤ j ∧ j ≤ 9) ∨ j = 12 ∨ (20 ≤ j ∧ j ≤ 27)) → ρ1.2.2 j = σ.2.2 j := fun j hj => (rr j).trans ((x3 j hj).trans (sa j))
  have h4 : ∀ j, 4 ≤ j → j ≤ 9 → ∀ i, 1 ≤ i → i < (σ.1 22).toNatClampNeg → ρ1.2.2 j i = σ.2.2 j i := fun j j4 j9 i i1 i2 => by rw [rr j, x4 j j4 j9 i i1 (by omega), sa j]
  have h12 : ∀ i, i < (σ.1 24).toNatClampNeg → ρ1.2.2 12 i = σ.2.2 12 i := fun i hi => by rw [rr 12, x5 i (by omega), sa 12]
  have h21 : ∀ i, i ≠ 42 → ρ1.2.2 21 i = σ.2.2 21 i := fun i hi => by rw [rr 21, x6 i hi, sa 21]
  have h20 : ∀ i, i < 2520 ∨ 2580 ≤ i → ρ1.2.2 20 i = σ.2.2 20 i := fun i hi => by rw [rr 20, x7 i hi, sa 20]
  have ll : ρ1.2.1 = σ.2.1 := by rw [hr, x2, ha2]
  have ae : AEq σ ω := AE_of hU0 (fun j hj => nn j (by omega)) ll h3 h4 h12 h21 h20 hF hU hk h95 (fun j hj => wn j (by omega)) (fun a h => wr a (by omega)) w113 w22 w24 w96
  have hUω : UT ω := UT_k hU (wn 63 (by omega)) (wn 64 (by omega)) (wn 65 (by omega)) (wr 28 (by omega)) (fun a h1 h2 => wr a (by omega)) (kC_c (fun i => by rw [wr 20 (by omega)]) (fun i _ => by rw [wr 21 (by omega)]) (wn 30 (by omega)))
  obtain ⟨m1, m2⟩ := kv_m hk
  refine ⟨PSt_ae hW ae hM hUω hP, fun j hj => ?_, fun a h => ?_, fun a i a4 a9 i1 i2 => ?_, fun i hi => ?_⟩
  · by_cases c : j = 22
    · rw [c]; exact w22
    by_cases c' : j = 24
    · rw [c']; exact w24
    rw [wn j (by omega), m1 j (by omega)]; exact nn j (by omega)
  · rw [wr a (by omega), m2 a (by omega)]; exact h3 a (by omega)
  · rw [wr a (by omega), m2 a (by omega)]; exact h4 a a4 a9 i i1 i2
  · rw [wr 12 (by omega), m2 12 (by omega)]; exact h12 i hi
end WRK
