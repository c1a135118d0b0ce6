/-! The class: execute. -/
section CUI
variable {g g' g2 : Nat → Prop} {l l' l2 : List Nat} {t t' t2 : Nat} {σ σ' σ2 τ τ' φ : CS} {L : LV} {x y z i : Int32} {M M' U U' : Nat → Int32} {K K' K0 K2 K2' K3 K3' K4 K4' KB : Nat → Option Int32} {c : Ct} {B f0 u0 a T : Nat} {fs : List FrT} {u d : Nat} {r r' : List Nat} {pb nf nc sq rk : Nat}
theorem mu_lt {q : Nat} (hl : uN (σ.1 1814) ≤ 10240000) (hq : q < QK) : mu σ q < 4611686018427387904 := by
  unfold mu
  have e1 := Nat.mul_le_mul_right (60002 * QK) hl
  have e2 : (60000 - uN (σ.1 1905)) * QK ≤ 60000 * QK := Nat.mul_le_mul_right QK (by omega)
  have e3 : QK = 6000150 := rfl
  rw [e3] at e1 e2 hq ⊢
  omega
/-- a run that stands at a statement runs on -/
theorem RunT_of (h : RUN c K (uN (σ.1 1900)) (uN (σ.1 1901)) (uN (σ.1 1902)) (uN (σ.1 1908)) 0) (w : uN (σ.1 1905) ≤ 60000) (e15 : σ.1 1815 = 0) (e11 : σ.1 1811 = 0) (hl : uN (σ.1 1814) ≤ 10240000) : ∃ q, RunT c K K4 0 0 σ q ∧ mu σ q < 4611686018427387904 := by
  obtain ⟨u, d, rk, sq, fs, ms, ⟨tD, hms⟩, r1, sl, d2, fb, cs, u4, fc, n5, p2, sp4⟩ := h
  have ty : TyS c K K4 0 0 σ fs u 0 ((bsl + d) :: ms) 0 0 (uN (σ.1 1908)) sq := ⟨sl, FC_k fc (fun _ _ => rfl) (fun p hp => absurd hp (Nat.not_lt_zero p)), by rw [bt_0]; exact fb, ⟨by rw [e15]; rfl, by decide⟩, by rw [e11]; rfl, fun _ => rfl, n5, by omega, PaM_0 hms⟩
  refine ⟨qv 0 sq rk, ⟨w, u, 0, (bsl + d) :: ms, rk, fs, 0, 0, _, sq, Or.inl ⟨ty, tD, rfl⟩⟩, ?_⟩
  exact mu_lt hl (qv_lt (rk := rk) ty (by omega))
theorem c_beginWork : Tm (fun k => y_X3_beginWork k 0 L σ) (fun q => q.2 = uI (uI (uI (uI (uI σ 1812 0) 1813 0) 1815 0) 1816 0) 1811 0) := by
  refine Tm_suc (fun k => by rw [y_X3_beginWork]) ?_
  refine Tm_suc (fun k => by rw [y_X3_beginWork]) ?_
  exact Tm_some rfl
theorem c_execute (mi : MIn c g l t K K2 K3 K4 B KB σ) (by0 : BY False σ) (h7 : tcS c u0 → σ.1 1907 = 0) (ck : CkA c) (hu : ¬ tcK c u0) (hz : tcS c u0 → f0 = 0 ∧ u0 = 0) (bo : (B ≤ f0 + 3 ∧ ∀ j, j < 4 + tcF c 0 → KB j = KH j) ∨ ((∀ j, KB j = KH j) ∧ B ≤ f0 + 4 + tcF c u0)) (rt : ∀ τ : CS, (∀ j, ¬ (j = 1811 ∨ j = 1812 ∨ j = 1813 ∨ j = 1815 ∨ j = 1816) → τ.1 j = σ.1 j) → τ.1 1815 = 0 → τ.1 1811 = 0 → ∃ q, RunT c K K4 f0 u0 τ q ∧ mu τ q < 4611686018427387904) : Tm (fun k => f_X3_execute k 0 L σ) (ExZ c B KB f0 u0 σ) := by
  obtain ⟨b, eb, cb⟩ := mi.2.2.1
  refine Tm_suc (fun k => by rw [f_X3_execute]) ?_
  refine Tm_op c_beginWork (fun q z => ?_)
  rw [z]
  generalize hτ : uI (uI (uI (uI (uI σ 1812 0) 1813 0) 1815 0) 1816 0) 1811 0 = τ
  have o : ∀ j, ¬ (j = 1811 ∨ j = 1812 ∨ j = 1813 ∨ j = 1815 ∨ j = 1816) → τ.1 j = σ.1 j := fun j hj => by rw [← hτ, uI_o (by omega), uI_o (by omega), uI_o (by omega), uI_o (by omega), uI_o (by omega)]
  have oe : τ.2 = σ.2 := by rw [← hτ]; rfl
  have o12 : τ.1 1812 = 0 := by rw [← hτ, uI_o (by decide), uI_o (by decide), uI_o (by decide), uI_o (by decide), uI_s]
  have o13 : τ.1 1813 = 0 := by rw [← hτ, uI_o (by decide), uI_o (by decide), uI_o (by decide), uI_s]
  have o15 : τ.1 1815 = 0 := by rw [← hτ, uI_o (by decide), uI_o (by decide), uI_s]
  have o11 : τ.1 1811 = 0 := by rw [← hτ, uI_s]
  have mt := MIn_fl (σ' := τ) mi oe (fun j hj => o j (by omega)) (by rw [o 1902 (by decide)]; exact mi.2.2.2.2.2.2.1.2) (by rw [o 1902 (by decide)]; exact Nat.le_refl _)
  have ebt : sPr τ = some b := by
    show τ.2.2.2.2.2.1.2.2.1 = _
    rw [oe]; exact eb
  refine Tm_oP ebt ?_
  have byt : BY (tcS c u0) τ := ⟨by rw [oe]; exact by0.1, by rw [oe]; exact by0.2.1, by rw [oe]; exact by0.2.2.1, by show τ.2.2.2.2.1 22 ≤ _; rw [oe]; exact by0.2.2.2.1, by show τ.2.2.2.2.1 66 ≤ _; rw [oe]; exact by0.2.2.2.2.1, fun _ => ⟨o13, fun cs => by rw [o 1907 (by decide)]; exact h7 cs⟩⟩
  have ph := Ph_s (σ := σ) (σ' := τ) (by rw [oe])
  have lx : LpX c B KB f0 u0 σ τ 0 0 4611686018427387904 := ⟨⟨by omega, by omega⟩, Md_M mt.2, fun _ => Md_E mt.2, byt, g, l, t, K, K2, K3, K4, mt.1, Or.inl ⟨o12, rt τ o o15 o11⟩⟩
  have z0 : (0 : Int64).toInt = 0 := rfl
  refine Tm_mono (c_loop ck hu hz bo (σ := σ) eb 4611686018427387904 _ τ 0 0 lx ?_ ?_ ?_) (fun q z => ?_)
  · show 0 ≤ (0 : Int64).toInt
    rw [z0]; exact Int.le_refl _
  · show (0 : Int64).toInt + ((4611686018427387904 : Nat) : Int) ≤ 4611686018427387904
    rw [z0]; omega
  · show τ.2.2.2.2.2.1.2.2.2.2 b = σ.2.2.2.2.2.1.2.2.2.2 b
    rw [oe]
  · rw [Nat.zero_add, Nat.zero_add] at z
    exact z
end CUI
