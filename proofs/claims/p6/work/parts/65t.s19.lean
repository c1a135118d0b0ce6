/-! One tape on both sides. -/
def tRel (σ : CS) (τ : MS) : Prop := σ.1 3701 = τ.1 4 ∧ ∀ i : Nat, (i : Int) < (σ.1 3701).toInt → τ.2.2 3 i = σ.2.2.1 38 i &&& 255
theorem mTape_old (τ : MS) (L : Nat → Int32) (h0 : 0 ≤ (τ.1 4).toInt) : ∀ m : Nat, (τ.1 4).toInt + m ≤ 2147483647 → ∀ i : Nat, (i : Int) < (τ.1 4).toInt → (mTape τ L m).2.2 3 i = τ.2.2 3 i
  | 0, _, i, _ => rfl
  | m + 1, hm, i, hi => by
    have hl := mTape_len τ L h0 m (by omega)
    have hc := i_clamp (x := (mTape τ L m).1 4) (by omega)
    show updG (mTape τ L m).2.2 3 (upd ((mTape τ L m).2.2 3) ((mTape τ L m).1 4).toNatClampNeg (by_ (wd L m) (nI m))) 3 i = _
    rw [updG_same, upd_other (by omega)]
    exact mTape_old τ L h0 m (by omega) i hi
theorem mTape_new (τ : MS) (L : Nat → Int32) (h0 : 0 ≤ (τ.1 4).toInt) : ∀ m : Nat, (τ.1 4).toInt + m ≤ 2147483647 → ∀ j : Nat, j < m → (mTape τ L m).2.2 3 ((τ.1 4).toNatClampNeg + j) = by_ (wd L j) (nI j)
  | 0, _, j, h => absurd h (by omega)
  | m + 1, hm, j, hj => by
    have hl := mTape_len τ L h0 m (by omega)
    have hc := i_clamp (x := (mTape τ L m).1 4) (by omega)
    have hc0 := i_clamp h0
    show updG (mTape τ L m).2.2 3 (upd ((mTape τ L m).2.2 3) ((mTape τ L m).1 4).toNatClampNeg (by_ (wd L m) (nI m))) 3 ((τ.1 4).toNatClampNeg + j) = _
    rw [updG_same]
    by_cases e : j = m
    · subst e
      rw [show (τ.1 4).toNatClampNeg + j = ((mTape τ L j).1 4).toNatClampNeg by omega, upd_same]
    · rw [upd_other (by omega)]
      exact mTape_new τ L h0 m (by omega) j (by omega)
/-- what feed leaves of the other fields and rows of the reference -/
theorem mTape_rest (τ : MS) (L : Nat → Int32) : ∀ m : Nat, (mTape τ L m).2.1 = τ.2.1 ∧ (∀ j, j ≠ 4 → (mTape τ L m).1 j = τ.1 j) ∧ (∀ j, j ≠ 3 → (mTape τ L m).2.2 j = τ.2.2 j)
  | 0 => ⟨rfl, fun _ _ => rfl, fun _ _ => rfl⟩
  | m + 1 => by
    obtain ⟨a, b, c⟩ := mTape_rest τ L m
    refine ⟨a, fun j hj => ?_, fun j hj => ?_⟩
    · show upd (mTape τ L m).1 4 _ j = _
      rw [upd_other hj]; exact b j hj
    · show updG (mTape τ L m).2.2 3 _ j = _
      rw [updG_other hj]; exact c j hj
theorem sh_all : ∀ j : Nat, j < 20 → (24 - (nI j - nI j / 4 * 4) * 8 : Int32) = nI (24 - 8 * (j % 4)) ∧ (24 - 8 * nI (j % 4) : Int32) = nI (24 - 8 * (j % 4)) := by decide +kernel
theorem fed_same (L : LV) (M : Nat → Int32) (hL : ∀ k, 1 ≤ k → k ≤ 5 → M k = L.1 k) {j : Nat} (hj : j < 20) : by_ (wd M j) (nI j) = cFed L j &&& 255 := by
  unfold by_ wd cFed
  rw [(sh_all j hj).1, (sh_all j hj).2, hL (1 + j / 4) (by omega) (by omega), cByte_u _ (by omega)]
/-- feed keeps the tape one -/
theorem feed_same {σ : CS} {τ : MS} {L : LV} {M : Nat → Int32} {r : RS} (hok : tOK σ) (h : tRel σ τ) (hL : ∀ k, 1 ≤ k → k ≤ 5 → M k = L.1 k) (h20 : (σ.1 3701).toInt + 20 ≤ 32768) (hr : tGrew σ 20 (cFed L) r) : tRel r.2.1 (mTape (upd τ.1 2 0, τ.2.1, τ.2.2) M 20) ∧ tOK r.2.1 := by
  obtain ⟨row, n, hst, hrow, hnew, hfit, a1, a2, a3, hc, hs⟩ := hr
  have h0 := hok.1
  have k20 : (20 : Int32).toInt = 20 := rfl
  have e20 : nI 20 = 20 := rfl
  have hli : (σ.1 3701 + nI 20).toInt = (σ.1 3701).toInt + 20 := by rw [e20, i_add] <;> rw [k20] <;> omega
  have hl : r.2.1.1 3701 = σ.1 3701 + nI 20 := by rw [hst]; exact tC_len
  have hrw : r.2.1.2.2.1 38 = row := by rw [hst]; exact tC_row
  have hnn : sN r.2.1 38 = n := by rw [hst]; exact tC_n
  have t4 : ((upd τ.1 2 0, τ.2.1, τ.2.2) : MS).1 4 = σ.1 3701 := by
    show upd τ.1 2 0 4 = _
    rw [upd_other (by decide)]; exact h.1.symm
  have hT0 : 0 ≤ (((upd τ.1 2 0, τ.2.1, τ.2.2) : MS).1 4).toInt := by rw [t4]; exact h0
  have hlen := mTape_len (upd τ.1 2 0, τ.2.1, τ.2.2) M hT0 20 (by rw [t4]; show _ + ((20 : Nat) : Int) ≤ _; omega)
  have hold := mTape_old (upd τ.1 2 0, τ.2.1, τ.2.2) M hT0 20 (by rw [t4]; show _ + ((20 : Nat) : Int) ≤ _; omega)
  have hnw := mTape_new (upd τ.1 2 0, τ.2.1, τ.2.2) M hT0 20 (by rw [t4]; show _ + ((20 : Nat) : Int) ≤ _; omega)
  rw [t4] at hlen hold hnw
  have hcl := i_clamp h0
  refine ⟨⟨?_, fun i hi => ?_⟩, ?_⟩
  · rw [hl, i_eq, hli, hlen]; rfl
  · rw [hl, hli] at hi
    rw [hrw]
    by_cases c : (i : Int) < (σ.1 3701).toInt
    · rw [hold i c, hrow i c]
      exact h.2 i c
    · obtain ⟨j, rfl⟩ : ∃ j, i = (σ.1 3701).toNatClampNeg + j := ⟨i - (σ.1 3701).toNatClampNeg, by omega⟩
      rw [hnw j (by omega), hnew j (by omega)]
      exact fed_same L M hL (by omega)
  · unfold tOK
    rw [hl, hli, hnn, hrw]
    exact ⟨by omega, by have a3 : _ + ((20 : Nat) : Int) ≤ _ := a3; omega, by omega, a2, hfit⟩
/-! end. -/
theorem s_end (L : Nat → Int32) (τ : MS) : Tm (fun k => x_end k 0 L τ) (fun r => r.2 = if ¬ L 1 < 0 ∧ L 1 ≤ τ.1 4 then (upd (upd τ.1 2 0) 4 (L 1), τ.2.1, τ.2.2) else (upd τ.1 2 1, τ.2.1, τ.2.2)) := by
  have bad : ¬ (¬ L 1 < 0 ∧ L 1 ≤ τ.1 4) → Tm (fun k => x_end k 1 L τ) (fun r => r.2 = if ¬ L 1 < 0 ∧ L 1 ≤ τ.1 4 then (upd (upd τ.1 2 0) 4 (L 1), τ.2.1, τ.2.2) else (upd τ.1 2 1, τ.2.1, τ.2.2)) := fun h => by
    rw [if_neg h]
    refine Tm_suc (fun k => by rw [x_end]) ?_
    refine Tm_suc (fun k => by rw [x_end]) ?_
    refine Tm_ob (s_good _ _) (fun r hr => ?_)
    subst hr
    refine Tm_ite (fun _ => ?_) (fun c => absurd (by rw [upd_same, upd_same]; exact (rfl : (0 : Int32) = 0)) c)
    refine Tm_suc (fun k => by rw [x_end]) ?_
    exact Tm_some (by show (upd τ.1 2 (upd (fun _ => 0) 1 (upd L 100 1 100) 1), τ.2.1, τ.2.2) = _; rw [upd_same, upd_same])
  refine Tm_suc (fun k => by rw [x_end]) ?_
  refine Tm_ite (fun c => bad (fun h => h.1 c)) (fun c => ?_)
  refine Tm_ite (fun d => ?_) (fun d => bad (fun h => d h.2))
  rw [if_pos ⟨c, d⟩]
  refine Tm_suc (fun k => by rw [x_end]) ?_
  refine Tm_suc (fun k => by rw [x_end]) ?_
  refine Tm_ob (s_good _ _) (fun r hr => ?_)
  subst hr
  refine Tm_ite (fun c1 => absurd c1 (by rw [upd_same, upd_same]; exact (by decide : ¬ (1 : Int32) = 0))) (fun _ => ?_)
  refine Tm_suc (fun k => by rw [x_end]) ?_
  exact Tm_some (by show (upd (upd τ.1 2 (upd (fun _ => 0) 1 (upd L 100 0 100) 1)) 4 (upd L 100 0 1), τ.2.1, τ.2.2) = _; rw [upd_same, upd_same, upd_other (by decide)])
theorem s_Cend (L : LV) (σ : CS) : Tm (fun k => f_X11_end k 0 L σ) (fun r => r = if ¬ L.1 1 < 0 ∧ L.1 1 ≤ σ.1 3701 then ((0, 0), uI σ 3701 (L.1 1), (0, 0)) else ((1, 0), σ, (1, 6))) := by
  have bad : ¬ (¬ L.1 1 < 0 ∧ L.1 1 ≤ σ.1 3701) → Tm (fun k => f_X11_end k 1 L σ) (fun r => r = if ¬ L.1 1 < 0 ∧ L.1 1 ≤ σ.1 3701 then ((0, 0), uI σ 3701 (L.1 1), (0, 0)) else ((1, 0), σ, (1, 6))) := fun h => by
    rw [if_neg h]
    refine Tm_suc (fun k => by rw [f_X11_end]) ?_
    exact Tm_some rfl
  refine Tm_suc (fun k => by rw [f_X11_end]) ?_
  refine Tm_ite (fun c => bad (fun h => h.1 c)) (fun c => ?_)
  refine Tm_ite (fun d => ?_) (fun d => bad (fun h => d h.2))
  rw [if_pos ⟨c, d⟩]
  refine Tm_suc (fun k => by rw [f_X11_end]) ?_
  exact Tm_some rfl
/-- end keeps the tape one -/
theorem end_same {σ : CS} {τ : MS} {x : Int32} (hok : tOK σ) (h : tRel σ τ) (hx : ¬ x < 0 ∧ x ≤ σ.1 3701) : tRel (uI σ 3701 x) (upd (upd τ.1 2 0) 4 x, τ.2.1, τ.2.2) ∧ tOK (uI σ 3701 x) := by
  have e : (uI σ 3701 x).1 3701 = x := (upd_same : upd σ.1 3701 x 3701 = x)
  rw [i_lt, i_le, i_c0] at hx
  obtain ⟨a, b, c, d, f⟩ := hok
  refine ⟨⟨?_, fun i hi => ?_⟩, ?_⟩
  · rw [e]; exact (upd_same : upd (upd τ.1 2 0) 4 x 4 = x).symm
  · rw [e] at hi; exact h.2 i (by omega)
  · unfold tOK
    rw [e]
    have : sN (uI σ 3701 x) = sN σ := rfl
    rw [this]
    exact ⟨by omega, by omega, by omega, d, f⟩
