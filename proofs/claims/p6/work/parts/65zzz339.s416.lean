/-! The class: saved runs are stored. -/
section CUA
variable {g g' g2 : Nat → Prop} {l l' l2 : List Nat} {t t' t2 : Nat} {σ σ' σ2 τ τ' : CS} {L : LV} {x y z i : Int32} {M M' U U' : Nat → Int32} {K K' K0 K2 K2' K3 K3' K4 K4' KB : Nat → Option Int32} {c : Ct} {B f0 u0 a T : Nat} {fs : List FrT} {u d : Nat} {r r' : List Nat} {pb nf nc sq rk : Nat}
/-- what saving leaves alone -/
def SvF (σ τ : CS) : Prop := (∀ j, ¬ ((2400 ≤ j ∧ j < 2410) ∨ (2800 ≤ j ∧ j < 3700)) → τ.1 j = σ.1 j) ∧ (∀ j, ¬ (2800 ≤ j ∧ j < 3700) → τ.2.1 j = σ.2.1 j) ∧ (∀ k, ¬ (k = 26 ∨ k = 27) → τ.2.2.1 k = σ.2.2.1 k) ∧ (∀ k, ¬ k = 26 → sN τ k = sN σ k) ∧ τ.2.2.2.1 = σ.2.2.2.1 ∧ τ.2.2.2.2.2.1 = σ.2.2.2.2.2.1
theorem SvF_r (σ : CS) : SvF σ σ := ⟨fun _ _ => rfl, fun _ _ => rfl, fun _ _ => rfl, fun _ _ => rfl, rfl, rfl⟩
theorem SvF_t (a : SvF σ σ') (b : SvF σ' σ2) : SvF σ σ2 := ⟨fun j hj => (b.1 j hj).trans (a.1 j hj), fun j hj => (b.2.1 j hj).trans (a.2.1 j hj), fun k hk => (b.2.2.1 k hk).trans (a.2.2.1 k hk), fun k hk => (b.2.2.2.1 k hk).trans (a.2.2.2.1 k hk), b.2.2.2.2.1.trans a.2.2.2.2.1, b.2.2.2.2.2.trans a.2.2.2.2.2⟩
theorem SvF_i (σ : CS) {j : Nat} (hj : 2400 ≤ j ∧ j < 2410) (x : Int32) : SvF σ (uI σ j x) := ⟨fun i hi => upd_other (by omega), fun _ _ => rfl, fun _ _ => rfl, fun _ _ => rfl, rfl, rfl⟩
theorem SvF_p (σ : CS) (i r : Nat) : SvF σ (uPi σ i r) := ⟨fun _ _ => rfl, fun _ _ => rfl, fun _ _ => rfl, fun _ _ => rfl, rfl, rfl⟩
theorem SvF_F (σ : CS) {k : Nat} (hk : k = 26 ∨ k = 27) (f : Nat → Int32) : SvF σ (uF σ k f) := ⟨fun _ _ => rfl, fun _ _ => rfl, fun i hi => updG_other (by omega), fun _ _ => rfl, rfl, rfl⟩
theorem SvF_Z (σ : CS) (n : Nat) : SvF σ (uZ σ 26 n) := ⟨fun _ _ => rfl, fun _ _ => rfl, fun i hi => updG_other (by omega), fun i hi => if_neg hi, rfl, rfl⟩
theorem SvF_M (a : SvF σ τ) : MFr σ τ := ⟨fun j hj => a.1 j (by omega), fun j hj => a.2.1 j (by omega), fun k hk => by
  unfold rwM at hk
  exact ⟨a.2.2.1 k (by omega), a.2.2.2.1 k (by omega)⟩, a.2.2.2.2.1, a.2.2.2.2.2⟩
theorem uF_s (σ : CS) (k : Nat) (f : Nat → Int32) : (uF σ k f).2.2.1 k = f := updG_same
/-- so many fields of a run were copied -/
def Cpy (σ : CS) (p n : Nat) (τ : CS) : Prop := (∀ j, ¬ (100 * (28 + p) ≤ j ∧ j < 100 * (28 + p) + 16) → τ.1 j = σ.1 j) ∧ (∀ i, i < n → τ.1 (100 * (28 + p) + i) = σ.1 (1900 + i)) ∧ τ.2 = σ.2
theorem Cpy_1 {p n : Nat} (hn : n < 16) (h : Cpy σ p n τ) (hv : x = τ.1 (1900 + n)) : Cpy σ p (n + 1) (uI τ (100 * (28 + p) + n) x) := by
  refine ⟨fun j hj => ?_, fun i hi => ?_, h.2.2⟩
  · show upd τ.1 (100 * (28 + p) + n) x j = _
    rw [upd_other (by omega)]
    exact h.1 j hj
  · show upd τ.1 (100 * (28 + p) + n) x (100 * (28 + p) + i) = _
    by_cases e : i = n
    · rw [e, upd_same, hv]
      exact h.1 _ (by omega)
    · rw [upd_other (by omega)]
      exact h.2.1 i (by omega)
theorem c_copyTo {p : Nat} (hp : p < 9) (h0 : L.2.2.2 0 = p) : Tm (fun k => y_X8_copyFrom__R__a19 k 0 L σ) (fun q => (∀ j, ¬ (100 * (28 + p) ≤ j ∧ j < 100 * (28 + p) + 16) → q.2.1 j = σ.1 j) ∧ (∀ i, i < 16 → q.2.1 (100 * (28 + p) + i) = σ.1 (1900 + i)) ∧ ∃ v, q.2.2 = (uL σ (100 * (28 + p) + 16) v).2) := by
  have b5 : ∀ τ, Cpy σ p 15 τ → Tm (fun k => y_X8_copyFrom__R__a19 k 5 L τ) (fun q => (∀ j, ¬ (100 * (28 + p) ≤ j ∧ j < 100 * (28 + p) + 16) → q.2.1 j = σ.1 j) ∧ (∀ i, i < 16 → q.2.1 (100 * (28 + p) + i) = σ.1 (1900 + i)) ∧ ∃ v, q.2.2 = (uL σ (100 * (28 + p) + 16) v).2) := by
    intro τ h
    refine Tm_suc (fun k => by rw [y_X8_copyFrom__R__a19]) ?_
    rw [h0]
    refine Tm_chk hp (Tm_chk hp ?_)
    have z := Cpy_1 (by decide) h rfl
    refine Tm_some ⟨z.1, z.2.1, σ.2.1 1916, ?_⟩
    show (updW τ.2.1 (100 * (28 + p) + 16) (τ.2.1 1916), τ.2.2) = (updW σ.2.1 (100 * (28 + p) + 16) (σ.2.1 1916), σ.2.2)
    rw [h.2.2]
  have b4 : ∀ τ, Cpy σ p 12 τ → Tm (fun k => y_X8_copyFrom__R__a19 k 4 L τ) (fun q => (∀ j, ¬ (100 * (28 + p) ≤ j ∧ j < 100 * (28 + p) + 16) → q.2.1 j = σ.1 j) ∧ (∀ i, i < 16 → q.2.1 (100 * (28 + p) + i) = σ.1 (1900 + i)) ∧ ∃ v, q.2.2 = (uL σ (100 * (28 + p) + 16) v).2) := by
    intro τ h
    refine Tm_suc (fun k => by rw [y_X8_copyFrom__R__a19]) ?_
    rw [h0]
    refine Tm_chk hp (Tm_chk hp (Tm_chk hp ?_))
    exact b5 _ (Cpy_1 (n := 14) (by decide) (Cpy_1 (n := 13) (by decide) (Cpy_1 (n := 12) (by decide) h rfl) rfl) rfl)
  have b3 : ∀ τ, Cpy σ p 9 τ → Tm (fun k => y_X8_copyFrom__R__a19 k 3 L τ) (fun q => (∀ j, ¬ (100 * (28 + p) ≤ j ∧ j < 100 * (28 + p) + 16) → q.2.1 j = σ.1 j) ∧ (∀ i, i < 16 → q.2.1 (100 * (28 + p) + i) = σ.1 (1900 + i)) ∧ ∃ v, q.2.2 = (uL σ (100 * (28 + p) + 16) v).2) := by
    intro τ h
    refine Tm_suc (fun k => by rw [y_X8_copyFrom__R__a19]) ?_
    rw [h0]
    refine Tm_chk hp (Tm_chk hp (Tm_chk hp ?_))
    exact b4 _ (Cpy_1 (n := 11) (by decide) (Cpy_1 (n := 10) (by decide) (Cpy_1 (n := 9) (by decide) h rfl) rfl) rfl)
  have b2 : ∀ τ, Cpy σ p 6 τ → Tm (fun k => y_X8_copyFrom__R__a19 k 2 L τ) (fun q => (∀ j, ¬ (100 * (28 + p) ≤ j ∧ j < 100 * (28 + p) + 16) → q.2.1 j = σ.1 j) ∧ (∀ i, i < 16 → q.2.1 (100 * (28 + p) + i) = σ.1 (1900 + i)) ∧ ∃ v, q.2.2 = (uL σ (100 * (28 + p) + 16) v).2) := by
    intro τ h
    refine Tm_suc (fun k => by rw [y_X8_copyFrom__R__a19]) ?_
    rw [h0]
    refine Tm_chk hp (Tm_chk hp (Tm_chk hp ?_))
    exact b3 _ (Cpy_1 (n := 8) (by decide) (Cpy_1 (n := 7) (by decide) (Cpy_1 (n := 6) (by decide) h rfl) rfl) rfl)
  have b1 : ∀ τ, Cpy σ p 3 τ → Tm (fun k => y_X8_copyFrom__R__a19 k 1 L τ) (fun q => (∀ j, ¬ (100 * (28 + p) ≤ j ∧ j < 100 * (28 + p) + 16) → q.2.1 j = σ.1 j) ∧ (∀ i, i < 16 → q.2.1 (100 * (28 + p) + i) = σ.1 (1900 + i)) ∧ ∃ v, q.2.2 = (uL σ (100 * (28 + p) + 16) v).2) := by
    intro τ h
    refine Tm_suc (fun k => by rw [y_X8_copyFrom__R__a19]) ?_
    rw [h0]
    refine Tm_chk hp (Tm_chk hp (Tm_chk hp ?_))
    exact b2 _ (Cpy_1 (n := 5) (by decide) (Cpy_1 (n := 4) (by decide) (Cpy_1 (n := 3) (by decide) h rfl) rfl) rfl)
  have h : Cpy σ p 0 σ := ⟨fun _ _ => rfl, fun i hi => absurd hi (Nat.not_lt_zero i), rfl⟩
  refine Tm_suc (fun k => by rw [y_X8_copyFrom__R__a19]) ?_
  rw [h0]
  refine Tm_chk hp (Tm_chk hp (Tm_chk hp ?_))
  exact b1 _ (Cpy_1 (n := 2) (by decide) (Cpy_1 (n := 1) (by decide) (Cpy_1 (n := 0) (by decide) h rfl) rfl) rfl)
/-- a run was stored -/
def StO (σ : CS) (a : Nat) (q : RS) : Prop := q.1 = (0, 0) ∧ CoP σ q ∧ SvF σ q.2.1 ∧ (∀ j, 2400 ≤ j → j < 2410 → q.2.1.1 j = σ.1 j) ∧ (∀ i, sPi q.2.1 i = sPi σ i) ∧ q.2.1.2.2.1 27 = upd (σ.2.2.1 27) a (σ.1 2403) ∧ (∀ p j, p < 9 → ¬ p = sPi σ a → j < 100 → q.2.1.1 (100 * (28 + p) + j) = σ.1 (100 * (28 + p) + j)) ∧ (∀ j, j < 16 → q.2.1.1 (100 * (28 + sPi σ a) + j) = σ.1 (1900 + j)) ∧ (uN (σ.1 2403) + uN (σ.1 1902) + uN (σ.1 1913) ≤ sN q.2.1 26 ∧ sN q.2.1 26 ≤ 20000) ∧ (∀ j, j < uN (σ.1 2403) → q.2.1.2.2.1 26 j = σ.2.2.1 26 j) ∧ (∀ j, j < uN (σ.1 1902) → q.2.1.2.2.1 26 (uN (σ.1 2403) + j) = σ.2.2.1 20 j) ∧ (∀ j, j < uN (σ.1 1913) → q.2.1.2.2.1 26 (uN (σ.1 2403) + uN (σ.1 1902) + j) = σ.2.2.1 21 j)
theorem c_store (hF : uN (σ.1 2403) ≤ sN σ 26) (h26 : sN σ 26 ≤ 20000) (h20 : uN (σ.1 1902) ≤ sN σ 20) (n20 : sN σ 20 ≤ 91000) (h21 : uN (σ.1 1913) ≤ sN σ 21) (n21 : sN σ 21 ≤ 44200) (hs : uN (σ.1 2403) + uN (σ.1 1902) + uN (σ.1 1913) ≤ 20000) (ha : a < 9) (h1 : uN (L.1 1) = a) (pa : sPi σ a < 9) : Tm (fun k => f_X9_store__a19__z20__z21 k 0 L σ) (StO σ a) := by
  have ca : (L.1 1).toNatClampNeg = a := by rw [u_cl (by omega)]; exact h1
  have ia : ¬ (L.1 1 < 0 ∨ 9 ≤ (L.1 1).toNatClampNeg) := u_in (by omega) (by decide)
  have e0 : (0 : Int32).toNatClampNeg = 0 := rfl
  have e2 : (20000 : Int32).toNatClampNeg = 20000 := rfl
  have eF : uN (σ.1 2403 + σ.1 1902) = uN (σ.1 2403) + uN (σ.1 1902) := u_add (by omega)
  have eS : uN (σ.1 2403 + σ.1 1902 + σ.1 1913) = uN (σ.1 2403) + uN (σ.1 1902) + uN (σ.1 1913) := by rw [u_add (by omega), eF]
  have b1 : ∀ (τ : CS) (n1 n2 : Nat), SvF σ τ → τ.1 = σ.1 → τ.2.1 = σ.2.1 → (∀ i, sPi τ i = sPi σ i) → τ.2.2.1 27 = σ.2.2.1 27 → (∀ j, j < uN (σ.1 2403) → τ.2.2.1 26 j = σ.2.2.1 26 j) → uN (σ.1 2403) + uN (σ.1 1902) + uN (σ.1 1913) ≤ sN τ 26 → sN τ 26 ≤ 20000 → n1 + PhC τ ≤ PhC σ → n2 + PhS τ ≤ PhS σ → Tm (fun k => f_X9_store__a19__z20__z21 k 1 L τ) (fun q => StO σ a (q.1, q.2.1, (n1 + q.2.2.1, n2 + q.2.2.2))) := by
    intro τ n1 n2 sf t1 t2 tp t27 t26 tl tl2 k1 k2
    have tn20 : sN τ 20 = sN σ 20 := sf.2.2.2.1 20 (by decide)
    have tn21 : sN τ 21 = sN σ 21 := sf.2.2.2.1 21 (by decide)
    refine Tm_suc (fun k => by rw [f_X9_store__a19__z20__z21]) ?_
    rw [ca]
    rw [ca] at ia
    refine Tm_chk ia ?_
    refine Tm_suc (fun k => by rw [f_X9_store__a19__z20__z21]) ?_
    rw [ca]
    refine Tm_chk ia ?_
    have pa' : sPi (uA τ 27 a (τ.1 2403)) a < 9 := by
      show sPi τ a < 9
      rw [tp]; exact pa
    refine Tm_chk pa' ?_
    refine Tm_op (c_copyTo (p := sPi σ a) pa (by show sPi τ a = _; exact tp a)) (fun q z => ?_)
    obtain ⟨z1, z2, v, z3⟩ := z
    generalize hq : q.2 = ρ at *
    have z1' : ∀ j, ¬ (100 * (28 + sPi σ a) ≤ j ∧ j < 100 * (28 + sPi σ a) + 16) → ρ.1 j = σ.1 j := fun j hj => by rw [z1 j hj]; show τ.1 j = _; rw [t1]
    have z2' : ∀ i, i < 16 → ρ.1 (100 * (28 + sPi σ a) + i) = σ.1 (1900 + i) := fun i hi => by rw [z2 i hi]; show τ.1 _ = _; rw [t1]
    have r26 : ρ.2.2.1 26 = τ.2.2.1 26 := by rw [z3]; rfl
    have r20 : ρ.2.2.1 20 = σ.2.2.1 20 := by rw [z3]; exact sf.2.2.1 20 (by decide)
    have r21 : ρ.2.2.1 21 = σ.2.2.1 21 := by rw [z3]; exact sf.2.2.1 21 (by decide)
    have r27 : ρ.2.2.1 27 = upd (σ.2.2.1 27) a (σ.1 2403) := by
      rw [z3]
      show updG τ.2.2.1 27 (upd (τ.2.2.1 27) a (τ.1 2403)) 27 = _
      rw [updG_same, t27, t1]
    have rn : ∀ k, sN ρ k = sN τ k := fun k => by show ρ.2.2.2.2.1 k = _; rw [z3]; rfl
    have q3 := z1' 2403 (by omega)
    have q02 := z1' 1902 (by omega)
    have q13 := z1' 1913 (by omega)
    have cF : (σ.1 2403).toNatClampNeg = uN (σ.1 2403) := u_cl (by omega)
    have cS : (σ.1 1902).toNatClampNeg = uN (σ.1 1902) := u_cl (by omega)
    have cT : (σ.1 1913).toNatClampNeg = uN (σ.1 1913) := u_cl (by omega)
    have cFS : (σ.1 2403 + σ.1 1902).toNatClampNeg = uN (σ.1 2403) + uN (σ.1 1902) := by rw [u_cl (by omega)]; exact eF
    rw [q3, q02, e0, cF, cS, rn 20, rn 26, tn20]
    refine Tm_chk ⟨by decide, by rw [u_neg]; omega, by rw [u_neg]; omega, by omega, by omega⟩ ?_
    generalize hR : uF ρ 26 (va_cpy (ρ.2.2.1 20) (ρ.2.2.1 26) 0 (uN (σ.1 2403)) (uN (σ.1 1902))) = ω
    have w1 : ω.1 = ρ.1 := by rw [← hR]; rfl
    have wn : ∀ k, sN ω k = sN ρ k := fun k => by rw [← hR]; rfl
    have w21 : ω.2.2.1 21 = σ.2.2.1 21 := by rw [← hR]; exact r21
    have w26 : ω.2.2.1 26 = va_cpy (σ.2.2.1 20) (τ.2.2.1 26) 0 (uN (σ.1 2403)) (uN (σ.1 1902)) := by rw [← hR, r20, r26]; exact uF_s _ _ _
    refine Tm_suc (fun k => by rw [f_X9_store__a19__z20__z21]) ?_
    rw [w1, q3, q02, q13, e0, cT, cFS, wn 21, wn 26, rn 21, rn 26, tn21]
    refine Tm_chk ⟨by decide, by rw [u_neg]; omega, by rw [u_neg]; omega, by omega, by omega⟩ ?_
    refine Tm_suc (fun k => by rw [f_X9_store__a19__z20__z21]) ?_
    refine Tm_some ?_
    have f27 : SvF τ ρ := by
      refine ⟨fun j hj => ?_, fun j hj => ?_, fun k hk => ?_, fun k _ => rn k, ?_, ?_⟩
      · rw [z1' j (by omega), t1]
      · rw [z3]
        show updW τ.2.1 (100 * (28 + sPi σ a) + 16) v j = _
        exact updW_other (by omega)
      · rw [z3]
        exact updG_other (by omega)
      · rw [z3]; rfl
      · rw [z3]; rfl
    have sfw : SvF σ ω := SvF_t sf (SvF_t f27 (by rw [← hR]; exact SvF_F ρ (Or.inl rfl) _))
    have ph1 := Ph_s (σ := τ) (σ' := uF ω 26 (va_cpy (ω.2.2.1 21) (ω.2.2.1 26) 0 (uN (σ.1 2403) + uN (σ.1 1902)) (uN (σ.1 1913)))) (by show ω.2.2.2.2.1 = _; rw [← hR]; show ρ.2.2.2.2.1 = _; rw [z3]; rfl)
    have g26 : (uF ω 26 (va_cpy (ω.2.2.1 21) (ω.2.2.1 26) 0 (uN (σ.1 2403) + uN (σ.1 1902)) (uN (σ.1 1913)))).2.2.1 26 = va_cpy (σ.2.2.1 21) (va_cpy (σ.2.2.1 20) (τ.2.2.1 26) 0 (uN (σ.1 2403)) (uN (σ.1 1902))) 0 (uN (σ.1 2403) + uN (σ.1 1902)) (uN (σ.1 1913)) := by
      rw [w21, w26]; exact uF_s _ _ _
    refine ⟨rfl, ⟨by show n1 + 0 + PhC (uF ω 26 _) ≤ _; omega, by show n2 + 0 + PhS (uF ω 26 _) ≤ _; omega⟩, SvF_t sfw (SvF_F ω (Or.inl rfl) _), fun j h1 h2 => ?_, fun i => ?_, ?_, fun p j hp hn hj => ?_, fun j hj => ?_, ⟨?_, ?_⟩, fun j hj => ?_, fun j hj => ?_, fun j hj => ?_⟩
    · show ω.1 j = _
      rw [w1]; exact z1' j (by omega)
    · show sPi ω i = _
      rw [← hR]
      show ρ.2.2.2.2.2.2 i = _
      rw [z3]; exact tp i
    · show ω.2.2.1 27 = _
      rw [← hR]
      exact r27
    · show ω.1 _ = _
      rw [w1]; exact z1' _ (by omega)
    · show ω.1 _ = _
      rw [w1]; exact z2' j hj
    · show _ ≤ sN ω 26
      rw [wn, rn]; exact tl
    · show sN ω 26 ≤ _
      rw [wn, rn]; exact tl2
    · show (uF ω 26 _).2.2.1 26 j = _
      rw [g26]
      unfold va_cpy
      rw [if_neg (by omega), if_neg (by omega)]
      exact t26 j hj
    · show (uF ω 26 _).2.2.1 26 _ = _
      rw [g26]
      unfold va_cpy
      rw [if_neg (by omega), if_pos (by omega), show 0 + (uN (σ.1 2403) + j - uN (σ.1 2403)) = j by omega]
    · show (uF ω 26 _).2.2.1 26 _ = _
      rw [g26]
      unfold va_cpy
      rw [if_pos (by omega), show 0 + (uN (σ.1 2403) + uN (σ.1 1902) + j - (uN (σ.1 2403) + uN (σ.1 1902))) = j by omega]
  refine Tm_suc (fun k => by rw [f_X9_store__a19__z20__z21]) ?_
  refine Tm_chk ⟨by decide, by decide, by omega⟩ ?_
  rw [e2]
  refine Tm_ite (fun cw => ?_) (fun cw => ?_)
  · refine Tm_adR ?_
    have z := Ph_z26 cw.2
    refine Tm_mono (b1 (uZ σ 26 20000) 1 20000 (SvF_Z σ _) rfl rfl (fun _ => rfl) ?_ (fun j hj => ?_) ?_ ?_ (by omega) (by omega)) (fun q z => z)
    · rfl
    · show updG σ.2.2.1 26 (fun i => if i < sN σ 26 then σ.2.2.1 26 i else 0) 26 j = _
      rw [updG_same]
      show (if j < sN σ 26 then σ.2.2.1 26 j else 0) = _
      rw [if_pos (by omega)]
    · show _ ≤ updN (sN σ) 26 20000 26
      unfold updN
      rw [if_pos rfl]; exact hs
    · show updN (sN σ) 26 20000 26 ≤ _
      unfold updN
      rw [if_pos rfl]; exact Nat.le_refl _
  · have sz : uN (σ.1 2403) + uN (σ.1 1902) + uN (σ.1 1913) ≤ sN σ 26 := by
      rcases Nat.lt_or_ge (sN σ 26) (uN (σ.1 2403) + uN (σ.1 1902) + uN (σ.1 1913)) with y | y
      · exfalso
        apply cw
        refine ⟨?_, ?_⟩
        · rw [u_ltn (by rw [u_n (by omega)]; omega) (by omega), eS, u_n (by omega)]; exact y
        · show sN σ 26 < 20000
          omega
      · exact y
    refine Tm_mono (b1 σ 0 0 (SvF_r σ) rfl rfl (fun _ => rfl) rfl (fun _ _ => rfl) sz h26 (by omega) (by omega)) (fun q z => ?_)
    obtain ⟨z1, z2, z3⟩ := z
    refine ⟨z1, ?_, z3⟩
    have z21 : 0 + q.2.2.1 + PhC q.2.1 ≤ PhC σ := z2.1
    have z22 : 0 + q.2.2.2 + PhS q.2.1 ≤ PhS σ := z2.2
    exact ⟨by omega, by omega⟩
theorem c_isRoomS (h4 : uN (σ.1 2404) ≤ 8) (h3 : uN (σ.1 2403) ≤ 20000) (h20 : uN (σ.1 1902) ≤ 91000) (h21 : uN (σ.1 1913) ≤ 44200) (hp : ∀ i, i < 9 → sPi σ i < 9) : Tm (fun k => y_X9_isRoomFor__a19 k 0 L σ) (fun q => q.2 = σ ∧ (q.1 = 0 ∨ (q.1 = 1 ∧ uN (σ.1 2403) + uN (σ.1 1902) + uN (σ.1 1913) ≤ 20000))) := by
  have eF : uN (σ.1 2403 + σ.1 1902) = uN (σ.1 2403) + uN (σ.1 1902) := u_add (by omega)
  have eS : uN (σ.1 2403 + σ.1 1902 + σ.1 1913) = uN (σ.1 2403) + uN (σ.1 1902) + uN (σ.1 1913) := by rw [u_add (by omega), eF]
  have e2 : uN (20000 : Int32) = 20000 := rfl
  have b3 : ∀ L' : LV, Tm (fun k => y_X9_isRoomFor__a19 k 3 L' σ) (fun q => q.2 = σ ∧ (q.1 = 0 ∨ (q.1 = 1 ∧ uN (σ.1 2403) + uN (σ.1 1902) + uN (σ.1 1913) ≤ 20000))) := by
    intro L'
    refine Tm_suc (fun k => by rw [y_X9_isRoomFor__a19]) ?_
    refine Tm_suc (fun k => by rw [y_X9_isRoomFor__a19]) ?_
    refine Tm_chk (Or.inl rfl) ?_
    exact Tm_some ⟨rfl, Or.inl rfl⟩
  have b2 : ∀ L' : LV, Tm (fun k => y_X9_isRoomFor__a19 k 2 L' σ) (fun q => q.2 = σ ∧ (q.1 = 0 ∨ (q.1 = 1 ∧ uN (σ.1 2403) + uN (σ.1 1902) + uN (σ.1 1913) ≤ 20000))) := by
    intro L'
    refine Tm_suc (fun k => by rw [y_X9_isRoomFor__a19]) ?_
    refine Tm_ite (fun _ => b3 _) (fun c1 => Tm_ite (fun _ => b3 _) (fun _ => ?_))
    rw [u_ltn (by omega) (by omega), eS, e2] at c1
    refine Tm_suc (fun k => by rw [y_X9_isRoomFor__a19]) ?_
    refine Tm_chk (Or.inr rfl) ?_
    exact Tm_some ⟨rfl, Or.inr ⟨rfl, by omega⟩⟩
  have b1 : ∀ (m : Nat) (L' : LV), uN (L'.1 3) + m = uN (σ.1 2404) → Tm (fun k => y_X9_isRoomFor__a19 k 1 L' σ) (fun q => q.2 = σ ∧ (q.1 = 0 ∨ (q.1 = 1 ∧ uN (σ.1 2403) + uN (σ.1 1902) + uN (σ.1 1913) ≤ 20000))) := by
    intro m
    induction m with
    | zero =>
      intro L' hm
      refine Tm_suc (fun k => by rw [y_X9_isRoomFor__a19]) ?_
      exact Tm_yes (by rw [u_le (by omega) (by omega)]; omega) (b2 _)
    | succ m ih =>
      intro L' hm
      have i3 : ¬ (L'.1 3 < 0 ∨ 9 ≤ (L'.1 3).toNatClampNeg) := u_in (by omega) (by decide)
      have p3 : sPi σ (L'.1 3).toNatClampNeg < 9 := hp _ (by rw [u_cl (by omega)]; omega)
      refine Tm_suc (fun k => by rw [y_X9_isRoomFor__a19]) ?_
      refine Tm_no (by rw [u_le (by omega) (by omega)]; omega) ?_
      refine Tm_chk i3 (Tm_chk p3 (Tm_chk i3 (Tm_chk p3 ?_)))
      refine ih _ ?_
      show uN (L'.1 3 + 1) + m = _
      rw [u_inc (by omega)]; omega
  refine Tm_suc (fun k => by rw [y_X9_isRoomFor__a19]) ?_
  refine b1 (uN (σ.1 2404)) _ ?_
  show uN 0 + _ = _
  exact Nat.zero_add _
end CUA
