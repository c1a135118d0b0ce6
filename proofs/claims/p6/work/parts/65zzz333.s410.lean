/-! The class: targets are written. -/
section CTU
variable {g g' g2 : Nat → Prop} {l l' l2 : List Nat} {t t' t2 : Nat} {σ σ' σ2 τ τ' : CS} {L : LV} {x y z i : Int32} {M M' U U' : Nat → Int32} {K K' K0 K2 K2' K3 K4 K4' KB : Nat → Option Int32} {c : Ct} {B f0 u0 a T : Nat} {fs : List FrT} {u d : Nat} {r r' : List Nat} {pb nf nc sq rk : Nat}
/-- values above T are given up -/
theorem Wj_dr (h : Wj c g l t K K2 K3 K4 B KB K0 a T σ τ) (hB : B ≤ T) (h1 : T ≤ uN x) (h2 : uN x ≤ uN (τ.1 1902)) : Wj c g l t K K2 K3 K4 B KB K0 a T σ (uI τ 1902 x) := by
  obtain ⟨w1, w2, w3, w4, w5, w6, w7, w8, w9⟩ := h
  have e : ∀ j, ¬ j = 1902 → (uI τ 1902 x).1 j = τ.1 j := fun j hj => upd_other hj
  have md : Md τ (uI τ 1902 x) := Md_i τ (by decide) x
  obtain ⟨st1, st2, st3⟩ := w1.2.1.1
  have e5 : (uI τ 1902 x).1 1902 = x := rfl
  have v := VI_20 (σ' := uI τ 1902 x) w1.2.1 md rfl ⟨fun _ z => z, fun _ _ => rfl⟩ (K' := K) (by rw [e5]; show _ ≤ sN τ 20; omega) st2 (by rw [e5]; exact fun j hj => st3 j (by omega))
  refine ⟨?_, w2, w3, ⟨w4.1, by rw [e5]; exact h1⟩, fun j hj => (e j (by omega)).trans (w5 j hj), MFr_t w6 (Md_M md), w7, w8, w9⟩
  refine MIn_d w1 md (HQ_fr w1.1 rfl rfl rfl) v w1.2.2.2.2.2.1 ?_
  rw [e5]
  omega
theorem c_assignX (h : HQ g l t σ) {j : Nat} (h1 : uN (L.1 1) = j) (jl : j < sN σ 20) (s9 : sN σ 20 ≤ 91000) (gx : Gv g (L.1 2)) (gj : Gw g (σ.2.2.1 20 j)) : Tm (fun k => y_X3_assign k 0 L σ) (fun q => q.2 = uI (uI σ 1813 6) 1812 1 ∨ ∃ x y, q.2 = uA (uI (uI σ 1909 x) 1910 y) 20 j (L.1 2)) := by
  have c1 : (L.1 1).toNatClampNeg = j := by rw [u_cl (by omega)]; exact h1
  have i1 : ¬ (L.1 1 < 0 ∨ sN σ 20 ≤ (L.1 1).toNatClampNeg) := u_in (by omega) (by omega)
  have b3 : ∀ (L' : LV) (x : Int32), L'.1 1 = L.1 1 → L'.1 2 = L.1 2 → Tm (fun k => y_X3_assign k 3 L' (uI σ 1909 x)) (fun q => q.2 = uI (uI σ 1813 6) 1812 1 ∨ ∃ x y, q.2 = uA (uI (uI σ 1909 x) 1910 y) 20 j (L.1 2)) := by
    intro L' x l1 l2
    refine Tm_suc (fun k => by rw [y_X3_assign]) ?_
    refine Tm_chk (by rw [l1]; exact i1) ?_
    rw [l1, c1, l2]
    exact Tm_some (Or.inr ⟨x, _, rfl⟩)
  have b1 : ∀ (L' : LV), L'.1 1 = L.1 1 → L'.1 2 = L.1 2 → Tm (fun k => y_X3_assign k 1 L' σ) (fun q => q.2 = uI (uI σ 1813 6) 1812 1 ∨ ∃ x y, q.2 = uA (uI (uI σ 1909 x) 1910 y) 20 j (L.1 2)) := by
    intro L' l1 l2
    refine Tm_suc (fun k => by rw [y_X3_assign]) ?_
    refine Tm_ite (fun _ => ?_) (fun _ => ?_)
    · refine Tm_suc (fun k => by rw [y_X3_assign]) ?_
      exact b3 _ _ l1 l2
    · exact b3 _ _ l1 l2
  refine Tm_suc (fun k => by rw [y_X3_assign]) ?_
  refine Tm_oc (c_size1 h gx) (fun q z => ?_)
  have e : q.2 = σ := z.1
  rw [e]
  refine Tm_chk i1 ?_
  refine Tm_oc (c_sizeW h (by show Gw g (σ.2.2.1 20 (L.1 1).toNatClampNeg); rw [c1]; exact gj)) (fun q2 z2 => ?_)
  have e2 : q2.2 = σ := z2.1
  rw [e2]
  refine Tm_ite (fun _ => b1 _ rfl rfl) (fun _ => Tm_ite (fun _ => b1 _ rfl rfl) (fun _ => ?_))
  refine Tm_oc c_fail (fun q3 e3 => ?_)
  rw [e3]
  exact Tm_some (Or.inl rfl)
/-- a slot that may be written -/
def SlW (K : Nat → Option Int32) (fp d : Nat) (r : List Nat) (j : Nat) : Prop := K j = none ∨ ∃ n, j = fp + 4 + n ∧ n < bt d r ∧ SlB r ∧ AllM (fun i => ¬ i = n) r
/-- a variable was written; the stack is as long as before -/
theorem Wj_as (p : Pre c g l t K K2 K3 K4 B KB f0 u0 σ fs u d r pb nf nc sq) (cs : tcS c u0) {v : Int32} (hk : ∀ p, a ≤ p → p < uN (σ.1 1902) → K p = none) (h : Wj c g' l' t' K' K2 K3 K4 B KB (Kc K (uN (σ.1 1902))) a (uN (σ.1 1902)) (uI σ 1900 v) τ) {j n1 n2 : Nat} (jl : j < uN (σ.1 1902)) (hj : SlW K (uN (σ.1 1901)) d r j) (gz : Gv g' z) (c1 : n1 + PhC τ ≤ PhC σ) (c2 : n2 + PhS τ ≤ PhS σ) (nx : Nx c (uN v) u d r rk) : IO c B KB f0 u0 σ (mu σ (qv nf sq rk)) ((0, 0), uI (uA (uI (uI τ 1909 x) 1910 y) 20 j z) 1902 (σ.1 1902), (n1, n2)) := by
  obtain ⟨w1, w2, w3, w4, w5, w6, w7, w8, w9⟩ := h
  have ty := p.2.1
  have bo := p.2.2.2.2
  have ts := TyS_sp ty
  have mb := p.1.2.2.2.2.2.2.1.2
  have fe : ∀ j, ¬ (j = 1 ∨ j = 404 ∨ j = 1203 ∨ j = 1812 ∨ j = 1813 ∨ j = 1902 ∨ j = 1905 ∨ (2403 ≤ j ∧ j ≤ 2405) ∨ j = 1900) → τ.1 j = σ.1 j := fun j hj => (w5 j (by omega)).trans (upd_other (by omega))
  have e9 : τ.1 1900 = v := w5 1900 (by decide)
  have ke : ∀ p, p < uN (σ.1 1902) → K' p = K p := fun p hp => by
    rcases Nat.lt_or_ge p a with y | y
    · rw [w2 p y]
      exact if_pos hp
    · rw [w3 p y, hk p y hp]
  have ue : ∀ j, ¬ (j = 1909 ∨ j = 1910 ∨ j = 1902) → (uI (uI (uI τ 1909 x) 1910 y) 1902 (σ.1 1902)).1 j = τ.1 j := fun j hj => by
    show upd (upd (upd τ.1 1909 x) 1910 y) 1902 _ j = _
    rw [upd_other (by omega), upd_other (by omega), upd_other (by omega)]
  have m1 := MIn_fw (σ' := uI (uI (uI τ 1909 x) 1910 y) 1902 (σ.1 1902)) w1 rfl (fun j hj => ue j (by omega)) mb w4.2 (by rw [ue 1903 (by decide), ue 1814 (by decide)]; exact w1.2.2.2.2.2.2.2.1)
  obtain ⟨mi1, mw1⟩ := m1
  show IO c B KB f0 u0 σ (mu σ (qv nf sq rk)) ((0, 0), uA (uI (uI (uI τ 1909 x) 1910 y) 1902 (σ.1 1902)) 20 j z, (n1, n2))
  have r2 : (uI (uI (uI τ 1909 x) 1910 y) 1902 (σ.1 1902)).2 = τ.2 := rfl
  have s2 : (uI (uI (uI τ 1909 x) 1910 y) 1902 (σ.1 1902)).1 1902 = σ.1 1902 := rfl
  generalize uI (uI (uI τ 1909 x) 1910 y) 1902 (σ.1 1902) = ρ at *
  have md : Md ρ (uA ρ 20 j z) := Md_A ρ (by decide) _ _
  obtain ⟨st1, st2, st3⟩ := mi1.2.1.1
  have rw1 : Rwk g' (ρ.2.2.1 3) (Kw K' j 1 none) (upd (ρ.2.2.1 20) j z) (uN (ρ.1 1902)) := by
    intro i hi
    by_cases e : i = j
    · rw [e, upd_same, Kw_i (Nat.le_refl _) (by omega)]
      exact Rwn (gz)
    · rw [upd_other e, Kw_o (by omega)]
      exact st3 i hi
  have vv := VI_20 (σ' := uA ρ 20 j z) mi1.2.1 md rfl ⟨fun _ z => z, fun _ _ => rfl⟩ st1 st2 rw1
  have kb : ∀ i, i < B → Kw K' j 1 none i = KB i := by
    intro i hi
    by_cases e : i = j
    · rw [Kw_i (by omega) (by omega)]
      rcases hj with q | ⟨n, q1, q2, q3, q4⟩
      · have k1 := w1.2.2.2.2.2.1 i hi
        rw [ke i (by omega), e, q] at k1
        rw [e]; exact k1
      · rcases bo with y | y
        · omega
        · exact ((y.1 i).trans (KH_n (by omega))).symm
    · rw [Kw_o (by omega)]
      exact w1.2.2.2.2.2.1 i hi
  have mi2 := MIn_d mi1 md (HQ_fr mi1.1 rfl rfl rfl) vv kb (by show B ≤ uN (ρ.1 1902); rw [s2]; exact mb)
  have ph := Ph_s (σ := τ) (σ' := uA ρ 20 j z) (by show ρ.2.2.2.2.1 = _; rw [r2])
  refine ⟨rfl, ⟨by show n1 + PhC (uA ρ 20 j z) ≤ _; omega, by show n2 + PhS (uA ρ 20 j z) ≤ _; omega⟩, MFr_t (Md_M (Md_i σ (by decide) v)) (MFr_t w6 (MFr_t (Mw_M mw1) (Md_M md))), fun n => absurd cs n, g', l', t', _, K2, K3, K4, mi2, fun z0 => ?_, fun z0 => Or.inl (by
    have z1 : ¬ ρ.1 1812 = 0 := z0
    show ¬ ρ.1 1813 = 0
    rw [ue 1812 (by decide)] at z1
    rw [ue 1813 (by decide)]
    exact w9 z1)⟩
  have z0' : ρ.1 1812 = 0 := z0
  rw [ue 1812 (by decide)] at z0'
  have hw := w7 z0'
  have hw1 : uN (σ.1 1905) ≤ uN (τ.1 1905) := hw.1
  have e05 : (uA ρ 20 j z).1 1905 = τ.1 1905 := ue 1905 (by decide)
  have fe2 : ∀ j', ¬ (j' = 1 ∨ j' = 404 ∨ j' = 1203 ∨ j' = 1812 ∨ j' = 1813 ∨ j' = 1902 ∨ j' = 1905 ∨ (2403 ≤ j' ∧ j' ≤ 2405) ∨ j' = 1900 ∨ j' = 1909 ∨ j' = 1910) → (uA ρ 20 j z).1 j' = σ.1 j' := fun j' hj' => (ue j' (by omega)).trans (fe j' (by omega))
  have sK' : SL K' (uN (σ.1 1901) + 4) (uN (σ.1 1902)) d r := SL_eq _ _ _ (fun p _ h2 => ke p h2) ty.1
  have hsl : SL (Kw K' j 1 none) (uN (σ.1 1901) + 4) (uN ((uA ρ 20 j z).1 1902)) d r := by
    show SL (Kw K' j 1 none) _ (uN (ρ.1 1902)) d r
    rw [s2]
    rcases hj with q | ⟨n, q1, q2, q3, q4⟩
    · refine SL_eq _ _ _ (fun p _ _ => ?_) sK'
      unfold Kw
      split
      · rename_i e
        rw [show p = j by omega, ke j jl, q]
      · rfl
    · exact SL_sl (Or.inl rfl) (fun i s q b => by
        by_cases y : i % 500000 = n
        · exact Or.inr ⟨by omega, Mkk_n (fun lt => q.2 (by omega))⟩
        · exact Or.inl ⟨q.1, by omega⟩) r r _ _ q3 (by omega) (by omega) (Mrl_rf _ q4) sK'
  have hkk : ∀ p, p < uN (σ.1 1901) + 4 → Kw K' j 1 none p = K p := by
    intro p hp
    by_cases e : p = j
    · rcases hj with q | ⟨n, q1, q2, q3, q4⟩
      · rw [Kw_i (by omega) (by omega), e, q]
      · omega
    · rw [Kw_o (by omega)]; exact ke p (by omega)
  refine go_w (TyS_k ty ⟨fe2 1901 (by decide), fe2 1815 (by decide), fe2 1811 (by decide), fe2 1908 (by decide)⟩ hsl hkk ty.2.2.1 ty.2.2.2.2.2.2.2.2) (by rw [e05]; exact hw1) (by rw [e05]; exact hw.2) (fe2 1814 (by decide)) ?_
  show Nx c (uN (ρ.1 1900)) u d r rk
  rw [ue 1900 (by decide), e9]; exact nx
end CTU
