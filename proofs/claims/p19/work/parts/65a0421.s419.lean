section JnS419
/-! The class: add, addNear, save. -/
section CUD
variable {g g' g2 : Nat → Prop} {l l' l2 : List Nat} {t t' t2 : Nat} {σ σ' σ2 τ τ' φ : CS} {L : LV} {x y z i : Int32} {M M' U U' : Nat → Int32} {K K' K0 K2 K2' K3 K3' K4 K4' KB : Nat → Option Int32} {c : Ct} {B f0 u0 a T : Nat} {fs : List FrT} {u d : Nat} {r r' : List Nat} {pb nf nc sq rk : Nat}
/-- one more of the eight -/
theorem Sv_ad {q : RS} (so : StO σ a q) (sv : SV8 c g K3 σ) (ha : uN (σ.1 2404) = a) (a7 : a ≤ 7) (rn : RnO c K K2 σ) (r20 : Rwk g (σ.2.2.1 3) K (σ.2.2.1 20) (uN (σ.1 1902))) (r21 : Rwk g (σ.2.2.1 3) K2 (σ.2.2.1 21) (uN (σ.1 1913))) (h19 : ∀ i, i < a → bg8 σ i < uN (σ.1 1903)) (h7 : uN (σ.1 1903) < uN (σ.1 2407)) (hb : uN (σ.1 1903) ≤ 10240000) (e : ∀ j, ¬ (j = 2403 ∨ j = 2404) → φ.1 j = q.2.1.1 j) (e2 : φ.2 = q.2.1.2) (e3 : uN (φ.1 2403) = uN (σ.1 2403) + uN (σ.1 1902) + uN (σ.1 1913)) (e4 : uN (φ.1 2404) = a + 1) : SV8 c g (K9 K3 K K2 (uN (σ.1 2403)) (uN (σ.1 1902))) φ := by
  have sn := St_n (K3 := K3) so rn
  have sw := St_w so sv.2.2.2.2.1 r20 r21
  have so0 := so
  obtain ⟨s1, s2, sf, s4, s5, s6, s7, s8, s9, s10, s11, s12⟩ := so
  obtain ⟨⟨h1, h2, h3⟩, a1, a2, a3, a4, a5⟩ := sv
  have ep : ∀ i, sPi φ i = sPi σ i := fun i => by
    show φ.2.2.2.2.2.2 i = _
    rw [e2]; exact s5 i
  have en : ∀ k, sN φ k = sN q.2.1 k := fun k => by show φ.2.2.2.2.1 k = _; rw [e2]
  have er : ∀ k, φ.2.2.1 k = q.2.1.2.2.1 k := fun k => by rw [e2]
  have ef : ∀ p j, p < 9 → φ.1 (100 * (28 + p) + j) = q.2.1.1 (100 * (28 + p) + j) := fun p j hp => e _ (by omega)
  have pa := a1 a (by omega)
  have e27a : uN (φ.2.2.1 27 a) = uN (σ.1 2403) := by rw [er, s6, upd_same]
  have e27 : ∀ i, ¬ i = a → uN (φ.2.2.1 27 i) = uN (σ.2.2.1 27 i) := fun i hi => by rw [er, s6, upd_other hi]
  have eo : ∀ i, i < 9 → ¬ i = a → en8 φ i = en8 σ i ∧ bg8 φ i = bg8 σ i := fun i hi ne => by
    have p9 := a1 i hi
    have np : ¬ sPi σ i = sPi σ a := fun z => ne (a2 i a hi (by omega) z)
    unfold en8 bg8
    rw [e27 i ne, ep, ef _ _ p9, ef _ _ p9, ef _ _ p9, s7 _ _ p9 np (by decide), s7 _ _ p9 np (by decide), s7 _ _ p9 np (by decide)]
    exact ⟨rfl, rfl⟩
  have t2' : φ.1 (100 * (28 + sPi σ a) + 2) = σ.1 1902 := (ef _ _ pa).trans (s8 2 (by decide))
  have t13 : φ.1 (100 * (28 + sPi σ a) + 13) = σ.1 1913 := (ef _ _ pa).trans (s8 13 (by decide))
  have t3' : φ.1 (100 * (28 + sPi σ a) + 3) = σ.1 1903 := (ef _ _ pa).trans (s8 3 (by decide))
  have ea : en8 φ a = uN (σ.1 2403) + uN (σ.1 1902) + uN (σ.1 1913) ∧ bg8 φ a = uN (σ.1 1903) := by
    unfold en8 bg8
    rw [e27a, ep, t2', t13, t3']
    exact ⟨rfl, rfl⟩
  have f7 : uN (φ.1 2407) = uN (σ.1 2407) := by rw [e 2407 (by decide), s4 2407 (by decide) (by decide)]
  refine ⟨⟨by omega, by rw [e3, en]; exact s9.1, by rw [en]; exact s9.2⟩, fun i hi => by rw [ep]; exact a1 i hi, fun i j hi hj z => a2 i j hi hj (by rw [ep, ep] at z; exact z), fun i hi => ?_, by rw [er, er, e3]; exact sw, fun i hi => ?_⟩
  · rw [e4] at hi
    by_cases ia : i = a
    · rw [ia]
      refine ⟨?_, by rw [ea.1, e3]; exact Nat.le_refl _, fun k k1 k2 => absurd k2 (by omega)⟩
      rw [ep, e27a]
      exact SvR_m sn (fun j _ => ef _ _ pa) (en 20) (en 21) (fun _ _ => rfl)
    · have z := a3 i (by omega)
      have z2 := z.2.1
      have o := eo i (by omega) ia
      refine ⟨?_, by rw [o.1, e3]; omega, fun k k1 k2 => ?_⟩
      · rw [ep, e27 i ia]
        exact SvR_m (St_o so0 (by omega) (by omega) ia a1 a2 z.1 z2) (fun j _ => ef _ _ (a1 i (by omega))) (en 20) (en 21) (fun _ _ => rfl)
      · rw [o.1]
        by_cases ka : k = a
        · rw [ka, e27a]; exact z2
        · rw [e27 k ka]
          exact z.2.2 k k1 (by omega)
  · rw [e4] at hi
    rw [f7]
    by_cases ia : i = a
    · rw [ia, ea.2]
      exact ⟨h7, hb, fun k k1 k2 => absurd k2 (by omega)⟩
    · have z := a5 i (by omega)
      have o := eo i (by omega) ia
      rw [o.2]
      refine ⟨z.1, z.2.1, fun k k1 k2 => ?_⟩
      by_cases ka : k = a
      · rw [ka, ea.2]; exact h19 i (by omega)
      · rw [(eo k (by omega) ka).2]
        exact z.2.2 k k1 (by omega)
/-- behind an adding -/
def AdQ (c : Ct) (g : Nat → Prop) (l : List Nat) (t : Nat) (K K2 K4 : Nat → Option Int32) (B : Nat) (KB : Nat → Option Int32) (σ : CS) (z : RS) : Prop := z.1 = (0, 0) ∧ CoP σ z ∧ SvF σ z.2.1 ∧ ∃ K3', MIn c g l t K K2 K3' K4 B KB z.2.1
theorem c_add (mi : MIn c g l t K K2 K3 K4 B KB σ) (rn : RnO c K K2 σ) (h3 : σ.1 1903 = σ.1 2407) : Tm (fun k => f_X9_add__a19__z20__z21 k 0 L σ) (AdQ c g l t K K2 K4 B KB σ) := by
  have hb : uN (σ.1 1903) ≤ 10240000 := by have := mi.2.2.2.2.2.2.2.1; omega
  obtain ⟨st1, st2, st3⟩ := mi.2.1.1
  obtain ⟨pt1, pt2, pt3⟩ := mi.2.1.2.2.1
  have b4 : ∀ (τ : CS) (L' : LV) (K3' : Nat → Option Int32) (n1 n2 : Nat), SvF σ τ → SV8 c g K3' τ → τ.1 2405 = 0 → n1 + PhC τ ≤ PhC σ → n2 + PhS τ ≤ PhS σ → Tm (fun k => f_X9_add__a19__z20__z21 k 4 L' τ) (fun q => AdQ c g l t K K2 K4 B KB σ (q.1, q.2.1, (n1 + q.2.2.1, n2 + q.2.2.2))) := by
    intro τ L' K3' n1 n2 sf sv e5 k1 k2
    refine Tm_suc (fun k => by rw [f_X9_add__a19__z20__z21]) ?_
    exact Tm_some ⟨rfl, ⟨by show n1 + 0 + PhC τ ≤ _; omega, by show n2 + 0 + PhS τ ≤ _; omega⟩, sf, K3', MIn_8 mi sf sv e5⟩
  have b4' : ∀ (τ : CS) (L' : LV) (K3' : Nat → Option Int32), SvF σ τ → SV8 c g K3' τ → τ.1 2405 = 0 → τ.2.2.2.2.1 = σ.2.2.2.2.1 → Tm (fun k => f_X9_add__a19__z20__z21 k 4 L' τ) (AdQ c g l t K K2 K4 B KB σ) := by
    intro τ L' K3' sf sv e5 es
    refine Tm_suc (fun k => by rw [f_X9_add__a19__z20__z21]) ?_
    exact Tm_some ⟨rfl, CoP_0 es, sf, K3', MIn_8 mi sf sv e5⟩
  have b2 : ∀ (τ : CS) (L' : LV) (K3' : Nat → Option Int32), SvF σ τ → SV8 c g K3' τ → τ.1 2405 = 0 → τ.1 2407 = σ.1 2407 → τ.2.2.2.2.1 = σ.2.2.2.2.1 → uN (τ.1 2404) ≤ 7 → Tm (fun k => f_X9_add__a19__z20__z21 k 2 L' τ) (AdQ c g l t K K2 K4 B KB σ) := by
    intro τ L' K3' sf sv e5 e7 es le7
    have e19 : τ.1 1903 = σ.1 1903 := sf.1 1903 (by decide)
    have ww := w8_u (τ.1 2406)
    have nx : uN (τ.1 1903) < uN ((τ.1 1903 / w8 (τ.1 2406) + 1) * w8 (τ.1 2406)) := nx8 (by rw [e19]; exact hb) ww.1 ww.2
    have sf1 : SvF σ (uI τ 2407 ((τ.1 1903 / w8 (τ.1 2406) + 1) * w8 (τ.1 2406))) := SvF_t sf (SvF_i τ (by decide) _)
    have sv1 : SV8 c g K3' (uI τ 2407 ((τ.1 1903 / w8 (τ.1 2406) + 1) * w8 (τ.1 2406))) := SV8_e sv (fun j hj => uI_o (by omega)) rfl (by
      rw [uI_s, e7, ← h3, ← e19]; exact Nat.le_of_lt nx)
    have e51 : (uI τ 2407 ((τ.1 1903 / w8 (τ.1 2406) + 1) * w8 (τ.1 2406))).1 2405 = 0 := by rw [uI_o (by decide)]; exact e5
    have old := sv.2.2.2.2.2
    have n20 : sN τ 20 = sN σ 20 := sf.2.2.2.1 20 (by decide)
    have n21 : sN τ 21 = sN σ 21 := sf.2.2.2.1 21 (by decide)
    have t02 : τ.1 1902 = σ.1 1902 := sf.1 1902 (by decide)
    have t13 : τ.1 1913 = σ.1 1913 := sf.1 1913 (by decide)
    refine Tm_suc (fun k => by rw [f_X9_add__a19__z20__z21]) ?_
    refine Tm_no (w256 _) (Tm_no (w256 _) ?_)
    refine Tm_ite (fun _ => ?_) (fun _ => b4' _ _ K3' sf1 sv1 e51 es)
    refine Tm_op (c_isRoomS (σ := uI τ 2407 ((τ.1 1903 / w8 (τ.1 2406) + 1) * w8 (τ.1 2406))) (by rw [uI_o (by decide)]; omega) (by rw [uI_o (by decide)]; have := sv.1; omega) (by rw [uI_o (by decide), t02]; omega) (by rw [uI_o (by decide), t13]; omega) sv.2.1) (fun q z => ?_)
    obtain ⟨z1, z2 | ⟨z2, z3⟩⟩ := z
    · refine Tm_yes z2 ?_
      rw [z1]
      exact b4' _ _ K3' sf1 sv1 e51 es
    · refine Tm_no (by rw [z2]; decide) ?_
      rw [z1]
      generalize hτ : uI τ 2407 ((τ.1 1903 / w8 (τ.1 2406) + 1) * w8 (τ.1 2406)) = ρ at *
      have o : ∀ j, ¬ j = 2407 → ρ.1 j = τ.1 j := fun j hj => by rw [← hτ]; exact uI_o hj
      have oe : ρ.2 = τ.2 := by rw [← hτ]; rfl
      have o7 : uN (ρ.1 1903) < uN (ρ.1 2407) := by rw [o 1903 (by decide), ← hτ, uI_s]; exact nx
      have on : ∀ k, sN ρ k = sN τ k := fun k => by show ρ.2.2.2.2.1 k = _; rw [oe]
      have op' : ∀ i, sPi ρ i = sPi τ i := fun i => by show ρ.2.2.2.2.2.2 i = _; rw [oe]
      have v1 := sv1.1
      refine Tm_oxc (c_store (σ := ρ) (a := uN (ρ.1 2404)) v1.2.1 v1.2.2 (by rw [o 1902 (by decide), t02, on, n20]; exact st1) (by rw [on, n20]; exact st2.2) (by rw [o 1913 (by decide), t13, on, n21]; exact pt1) (by rw [on, n21]; exact pt2) z3 (by omega) rfl (sv1.2.1 _ (by omega))) (fun r s => by rw [s.1]) (fun q3 so => ?_)
      have cp := so.2.1
      have c1 := cp.1
      have c2 := cp.2
      have s4 := so.2.2.2.1
      have sf3 := so.2.2.1
      have q3' : q3.2.1.1 2403 = ρ.1 2403 := s4 2403 (by decide) (by decide)
      have q4' : q3.2.1.1 2404 = ρ.1 2404 := s4 2404 (by decide) (by decide)
      have q5' : q3.2.1.1 2405 = ρ.1 2405 := s4 2405 (by decide) (by decide)
      have q02 : q3.2.1.1 1902 = ρ.1 1902 := sf3.1 1902 (by decide)
      have q13 : q3.2.1.1 1913 = ρ.1 1913 := sf3.1 1913 (by decide)
      have l4 : uN (ρ.1 2404) ≤ 7 := by rw [o 2404 (by decide)]; exact le7
      refine Tm_suc (fun k => by rw [f_X9_add__a19__z20__z21]) ?_
      have es1 : uN (ρ.1 2403 + ρ.1 1902 + ρ.1 1913) = uN (ρ.1 2403) + uN (ρ.1 1902) + uN (ρ.1 1913) := by rw [u_add (by rw [u_add (by omega)]; omega), u_add (by omega)]
      have fin := Sv_ad (φ := uI (uI q3.2.1 2403 (q3.2.1.1 2403 + q3.2.1.1 1902 + q3.2.1.1 1913)) 2404 ((uI q3.2.1 2403 (q3.2.1.1 2403 + q3.2.1.1 1902 + q3.2.1.1 1913)).1 2404 + 1)) (K := K) (K2 := K2) so sv1 rfl l4 (RnO_e rn sf1) (by
        rw [sf1.2.2.1 3 (by decide), sf1.2.2.1 20 (by decide), sf1.1 1902 (by decide)]; exact st3) (by
        rw [sf1.2.2.1 3 (by decide), sf1.2.2.1 21 (by decide), sf1.1 1913 (by decide)]; exact pt3) (fun i hi => by
        have z := (sv.2.2.2.2.2 i (by rw [o 2404 (by decide)] at hi; exact hi)).1
        have p9 := sv.2.1 i (by omega)
        rw [e7, ← h3, ← e19] at z
        rw [o 1903 (by decide)]
        show uN (ρ.1 (100 * (28 + sPi ρ i) + 3)) < _
        rw [op', o _ (by omega)]
        exact z) o7 (by rw [o 1903 (by decide), e19]; exact hb) (fun j hj => by rw [uI_o (by omega), uI_o (by omega)]) rfl (by
        rw [uI_o (by decide), uI_s, q3', q02, q13]; exact es1) (by
        rw [uI_s, uI_o (by decide), q4']; exact u_inc (by omega))
      have ph := Ph_s (σ := q3.2.1) (σ' := uI (uI q3.2.1 2403 (q3.2.1.1 2403 + q3.2.1.1 1902 + q3.2.1.1 1913)) 2404 ((uI q3.2.1 2403 (q3.2.1.1 2403 + q3.2.1.1 1902 + q3.2.1.1 1913)).1 2404 + 1)) rfl
      have ph2 := Ph_s (σ := σ) (σ' := ρ) (by show ρ.2.2.2.2.1 = _; rw [oe]; exact es)
      exact b4 _ _ _ _ _ (SvF_t (SvF_t sf1 sf3) (SvF_t (SvF_i _ (by decide) _) (SvF_i _ (by decide) _))) fin (by rw [uI_o (by decide), uI_o (by decide), q5']; exact e51) (by omega) (by omega)
  have b1 : ∀ (m n : Nat) (τ : CS) (L' : LV) (K3' : Nat → Option Int32), n + m = 30 → uN (L'.1 4) = n → SvF σ τ → SV8 c g K3' τ → τ.1 2405 = 0 → τ.1 2407 = σ.1 2407 → τ.2.2.2.2.1 = σ.2.2.2.2.1 → (uN (τ.1 2404) ≤ 7 ∨ n = 0 ∨ (1 ≤ n ∧ 256 * 2 ^ (n - 1) ≤ uN (w8 (τ.1 2406)) ∧ uN (w8 (τ.1 2406)) < 2097152)) → Tm (fun k => f_X9_add__a19__z20__z21 k 1 L' τ) (AdQ c g l t K K2 K4 B KB σ) := by
    intro m
    induction m with
    | zero =>
      intro n τ L' K3' nm l4 sf sv e5 e7 es inv
      have le7 : uN (τ.1 2404) ≤ 7 := by
        rcases inv with y | y | ⟨y1, y2, y3⟩
        · exact y
        · omega
        · have e : n = 30 := by omega
          rw [e] at y2
          have y4 : 256 * 2 ^ 29 ≤ uN (w8 (τ.1 2406)) := y2
          omega
      have e30 : uN (30 : Int32) = 30 := rfl
      refine Tm_suc (fun k => by rw [f_X9_add__a19__z20__z21]) ?_
      exact Tm_yes (by rw [u_le (by decide) (by omega), e30]; omega) (b2 _ _ K3' sf sv e5 e7 es le7)
    | succ m ih =>
      intro n τ L' K3' nm l4 sf sv e5 e7 es inv
      have e30 : uN (30 : Int32) = 30 := rfl
      have e00 : uN (0 : Int32) = 0 := rfl
      have b3 : ∀ L2 : LV, L2.1 4 = L'.1 4 → Tm (fun k => f_X9_add__a19__z20__z21 k 3 L2 τ) (AdQ c g l t K K2 K4 B KB σ) := by
        intro L2 o4
        have n20 : sN τ 20 = sN σ 20 := sf.2.2.2.1 20 (by decide)
        have n21 : sN τ 21 = sN σ 21 := sf.2.2.2.1 21 (by decide)
        refine Tm_suc (fun k => by rw [f_X9_add__a19__z20__z21]) ?_
        refine Tm_oxc (c_thinOut sv ⟨by rw [n20]; exact st2.2, by rw [n21]; exact pt2⟩) (fun q z => by rw [z.1]) (fun q z => ?_)
        obtain ⟨z1, z2, z3, z4, z5, ⟨w1, w2, w3, w4⟩, K5, z6⟩ := z
        rw [z2]
        have inv' : uN (q.2.1.1 2404) ≤ 7 ∨ n + 1 = 0 ∨ (1 ≤ n + 1 ∧ 256 * 2 ^ (n + 1 - 1) ≤ uN (w8 (q.2.1.1 2406)) ∧ uN (w8 (q.2.1.1 2406)) < 2097152) := by
          rcases Nat.lt_or_ge (uN (w8 (q.2.1.1 2406))) 2097152 with y | y
          · rcases inv with v | v | ⟨v1, v2, v3⟩
            · left; omega
            · right; right
              refine ⟨by omega, ?_, y⟩
              rw [v]
              exact (w8_u _).1
            · right; right
              refine ⟨by omega, ?_, y⟩
              rw [w1, w8_2 (by omega)]
              have e : n + 1 - 1 = n - 1 + 1 := by omega
              rw [e, Nat.pow_succ]
              omega
          · left
            have := few8 z6.2.2.2.2.2 w4 y
            omega
        refine Tm_mono (ih (n + 1) q.2.1 _ K5 (by omega) ?_ (SvF_t sf z3) z6 (z5.trans e5) (w2.trans e7) (z4.trans es) inv') (fun q2 y => ?_)
        · show uN (L2.1 4 + 1) = n + 1
          rw [o4, u_inc (by omega), l4]
        · refine ⟨y.1, ⟨?_, ?_⟩, y.2.2⟩
          · show 0 + q2.2.2.1 + PhC q2.2.1 ≤ _
            have := y.2.1.1
            omega
          · show 0 + q2.2.2.2 + PhS q2.2.1 ≤ _
            have := y.2.1.2
            omega
      have v8 := sv.1.1
      refine Tm_suc (fun k => by rw [f_X9_add__a19__z20__z21]) ?_
      refine Tm_no (by rw [u_le (by decide) (by omega), e30]; omega) ?_
      refine Tm_ite (fun c0 => ?_) (fun c0 => ?_)
      · rw [u_le (by omega) (by decide), e00] at c0
        exact b2 _ _ K3' sf sv e5 e7 es (by omega)
      · refine Tm_ite (fun _ => b3 _ rfl) (fun c8 => ?_)
        have e88 : uN (8 : Int32) = 8 := rfl
        rw [u_eq, e88] at c8
        refine Tm_op (c_isRoomS (σ := τ) (by omega) (by have := sv.1; omega) (by rw [sf.1 1902 (by decide)]; omega) (by rw [sf.1 1913 (by decide)]; omega) sv.2.1) (fun q z => ?_)
        rw [z.1]
        refine Tm_ite (fun _ => b3 _ rfl) (fun _ => ?_)
        exact b2 _ _ K3' sf sv e5 e7 es (by omega)
  have sv0 := SV8_of mi
  refine Tm_suc (fun k => by rw [f_X9_add__a19__z20__z21]) ?_
  refine b1 30 0 _ _ K3 rfl rfl (SvF_i σ (by decide) _) (SV8_e sv0 (fun j hj => uI_o (by omega)) rfl ?_) uI_s ?_ rfl (Or.inr (Or.inl rfl))
  · rw [uI_o (by decide)]; exact Nat.le_refl _
  · rw [uI_o (by decide)]
end CUD
end JnS419
section JnS420
/-! The class: addNear, save, BEGIN. -/
section CUE
variable {g g' g2 : Nat → Prop} {l l' l2 : List Nat} {t t' t2 : Nat} {σ σ' σ2 τ τ' φ : CS} {L : LV} {x y z i : Int32} {M M' U U' : Nat → Int32} {K K' K0 K2 K2' K3 K3' K4 K4' KB : Nat → Option Int32} {c : Ct} {B f0 u0 a T : Nat} {fs : List FrT} {u d : Nat} {r r' : List Nat} {pb nf nc sq rk : Nat}
/-- the near one -/
theorem Sv_nr {q : RS} (so : StO σ 8 q) (sv : SV8 c g K3 σ) (rn : RnO c K K2 σ) (r20 : Rwk g (σ.2.2.1 3) K (σ.2.2.1 20) (uN (σ.1 1902))) (r21 : Rwk g (σ.2.2.1 3) K2 (σ.2.2.1 21) (uN (σ.1 1913))) (hb : uN (σ.1 1903) ≤ 10240000) (hs : uN (σ.1 2403) + uN (σ.1 1902) + uN (σ.1 1913) ≤ 20000) (h5 : ¬ σ.1 2405 = 0) : SVK c (K9 K3 K K2 (uN (σ.1 2403)) (uN (σ.1 1902))) q.2.1 ∧ uN (usI q.2.1) ≤ sN q.2.1 26 ∧ sN q.2.1 26 ≤ 20000 ∧ Rwk g (q.2.1.2.2.1 3) (K9 K3 K K2 (uN (σ.1 2403)) (uN (σ.1 1902))) (q.2.1.2.2.1 26) (uN (usI q.2.1)) := by
  have sn := St_n (K3 := K3) so rn
  have sw := St_w so sv.2.2.2.2.1 r20 r21
  have so0 := so
  obtain ⟨s1, s2, sf, s4, s5, s6, s7, s8, s9, s10, s11, s12⟩ := so
  obtain ⟨⟨h1, h2, h3⟩, a1, a2, a3, a4, a5⟩ := sv
  have pa := a1 8 (by decide)
  have e4 := s4 2404 (by decide) (by decide)
  have e3 := s4 2403 (by decide) (by decide)
  have e5 := s4 2405 (by decide) (by decide)
  have e7 := s4 2407 (by decide) (by decide)
  have e27a : uN (q.2.1.2.2.1 27 8) = uN (σ.1 2403) := by rw [s6, upd_same]
  have e27 : ∀ i, ¬ i = 8 → uN (q.2.1.2.2.1 27 i) = uN (σ.2.2.1 27 i) := fun i hi => by rw [s6, upd_other hi]
  have eo : ∀ i, i < 9 → ¬ i = 8 → en8 q.2.1 i = en8 σ i ∧ bg8 q.2.1 i = bg8 σ i := fun i hi ne => by
    have p9 := a1 i hi
    have np : ¬ sPi σ i = sPi σ 8 := fun z => ne (a2 i 8 hi (by decide) z)
    unfold en8 bg8
    rw [e27 i ne, s5, s7 _ _ p9 np (by decide), s7 _ _ p9 np (by decide), s7 _ _ p9 np (by decide)]
    exact ⟨rfl, rfl⟩
  have t2' : q.2.1.1 (100 * (28 + sPi σ 8) + 2) = σ.1 1902 := s8 2 (by decide)
  have t13 : q.2.1.1 (100 * (28 + sPi σ 8) + 13) = σ.1 1913 := s8 13 (by decide)
  have t3' : q.2.1.1 (100 * (28 + sPi σ 8) + 3) = σ.1 1903 := s8 3 (by decide)
  have us : uN (usI q.2.1) = uN (σ.1 2403) + uN (σ.1 1902) + uN (σ.1 1913) := by
    unfold usI
    rw [e5, if_neg h5, s5, t2', t13, e3, u_add (by rw [u_add (by omega)]; omega), u_add (by omega)]
  refine ⟨⟨⟨⟨by rw [e4]; exact h1, by rw [e3]; omega⟩, fun i hi => ?_, fun _ => by rw [s5, t3']; exact hb⟩, fun i hi => by rw [s5]; exact a1 i hi, fun i j hi hj z => a2 i j hi hj (by rw [s5, s5] at z; exact z), fun i hi => ?_, fun _ => ?_⟩, by rw [us]; exact s9.1, s9.2, by rw [us]; exact sw⟩
  · rw [e4] at hi
    have z := a5 i hi
    have o := (eo i (by omega) (by omega)).2
    have o' : uN (q.2.1.1 (100 * (28 + sPi q.2.1 i) + 3)) = bg8 σ i := o
    rw [o', e7]
    refine ⟨z.1, z.2.1, fun k k1 k2 => ?_⟩
    rw [e4] at k2
    have ok' : uN (q.2.1.1 (100 * (28 + sPi q.2.1 k) + 3)) = bg8 σ k := (eo k (by omega) (by omega)).2
    rw [ok']
    exact z.2.2 k k1 k2
  · rw [e4] at hi
    have z := a3 i hi
    have o : uN (q.2.1.2.2.1 27 i) + uN (q.2.1.1 (100 * (28 + sPi q.2.1 i) + 2)) + uN (q.2.1.1 (100 * (28 + sPi q.2.1 i) + 13)) = en8 σ i := (eo i (by omega) (by omega)).1
    rw [o, e3]
    refine ⟨?_, z.2.1, fun k k1 k2 => ?_⟩
    · rw [s5, e27 i (by omega)]
      exact St_o so0 (by decide) (by omega) (by omega) a1 a2 z.1 z.2.1
    · rw [e4] at k2
      rw [e27 k (by omega)]
      exact z.2.2 k k1 k2
  · rw [s5, t2', t13, e3, e27a]
    exact ⟨sn, rfl, hs⟩
theorem c_addNear (mi : MIn c g l t K K2 K3 K4 B KB σ) (rn : RnO c K K2 σ) : Tm (fun k => f_X9_addNear__a19__z20__z21 k 0 L σ) (AdQ c g l t K K2 K4 B KB σ) := by
  have hb : uN (σ.1 1903) ≤ 10240000 := by have := mi.2.2.2.2.2.2.2.1; omega
  obtain ⟨st1, st2, st3⟩ := mi.2.1.1
  obtain ⟨pt1, pt2, pt3⟩ := mi.2.1.2.2.1
  have sv := SV8_of mi
  have v1 := sv.1
  have e2 : uN (20000 : Int32) = 20000 := rfl
  have es1 : uN (σ.1 2403 + σ.1 1902 + σ.1 1913) = uN (σ.1 2403) + uN (σ.1 1902) + uN (σ.1 1913) := by rw [u_add (by rw [u_add (by omega)]; omega), u_add (by omega)]
  have svx : ∀ x, SV8 c g K3 (uI σ 2405 x) := fun x => SV8_e sv (fun j hj => uI_o (by omega)) rfl (by rw [uI_o (by decide)]; exact Nat.le_refl _)
  refine Tm_suc (fun k => by rw [f_X9_addNear__a19__z20__z21]) ?_
  refine Tm_ite (fun cc => ?_) (fun cc => ?_)
  · refine Tm_suc (fun k => by rw [f_X9_addNear__a19__z20__z21]) ?_
    refine Tm_suc (fun k => by rw [f_X9_addNear__a19__z20__z21]) ?_
    refine Tm_chk (Or.inl rfl) ?_
    refine Tm_yes rfl ?_
    refine Tm_suc (fun k => by rw [f_X9_addNear__a19__z20__z21]) ?_
    exact Tm_some ⟨rfl, CoP_0 rfl, SvF_i σ (by decide) _, K3, MIn_8 mi (SvF_i σ (by decide) _) (svx _) uI_s⟩
  · rw [u_ltn (by decide) (by omega), es1, e2] at cc
    refine Tm_suc (fun k => by rw [f_X9_addNear__a19__z20__z21]) ?_
    refine Tm_chk (Or.inr rfl) ?_
    refine Tm_no (by show ¬ (1 : Int32) = 0; decide) ?_
    have sf := SvF_i σ (j := 2405) (by decide) 1
    have o : ∀ j, ¬ j = 2405 → (uI σ 2405 1).1 j = σ.1 j := fun j hj => uI_o hj
    refine Tm_oxc (c_store (σ := uI σ 2405 1) (a := 8) (by rw [o 2403 (by decide)]; exact v1.2.1) v1.2.2 (by rw [o 1902 (by decide)]; exact st1) st2.2 (by rw [o 1913 (by decide)]; exact pt1) pt2 (by rw [o 2403 (by decide), o 1902 (by decide), o 1913 (by decide)]; omega) (by decide) rfl (sv.2.1 8 (by decide))) (fun r s => by rw [s.1]) (fun q so => ?_)
    have nr := Sv_nr so (svx 1) (RnO_e rn sf) (by rw [o 1902 (by decide)]; exact st3) (by rw [o 1913 (by decide)]; exact pt3) (by rw [o 1903 (by decide)]; exact hb) (by rw [o 2403 (by decide), o 1902 (by decide), o 1913 (by decide)]; omega) (by rw [uI_s]; decide)
    have c1 := so.2.1.1
    have c2 := so.2.1.2
    have ph := Ph_s (σ := σ) (σ' := uI σ 2405 1) rfl
    have sf2 := SvF_t sf so.2.2.1
    refine Tm_suc (fun k => by rw [f_X9_addNear__a19__z20__z21]) ?_
    exact Tm_some ⟨rfl, ⟨by show q.2.2.1 + 0 + PhC q.2.1 ≤ _; omega, by show q.2.2.2 + 0 + PhS q.2.1 ≤ _; omega⟩, sf2, _, MIn_9 mi sf2 nr.1 nr.2⟩
theorem c_save (mi : MIn c g l t K K2 K3 K4 B KB σ) (rn : RnO c K K2 (uI σ 1900 (L.1 1))) : Tm (fun k => f_X3_save k 0 L σ) (AdQ c g l t K K2 K4 B KB σ) := by
  have mb := mi.2.2.2.2.2.2.1.2
  have m1 : MIn c g l t K K2 K3 K4 B KB (uI σ 1900 (L.1 1)) := (MIn_fl (σ' := uI σ 1900 (L.1 1)) mi rfl (fun j hj => uI_o (by omega)) (by rw [uI_o (by decide)]; exact mb) (by rw [uI_o (by decide)]; exact Nat.le_refl _)).1
  have ph0 := Ph_s (σ := σ) (σ' := uI σ 1900 (L.1 1)) rfl
  have b2 : ∀ (τ : CS) (L' : LV) (K5 : Nat → Option Int32) (n1 n2 : Nat), SvF (uI σ 1900 (L.1 1)) τ → MIn c g l t K K2 K5 K4 B KB τ → L'.1 2 = σ.1 1900 → n1 + PhC τ ≤ PhC σ → n2 + PhS τ ≤ PhS σ → Tm (fun k => f_X3_save k 2 L' τ) (fun q => AdQ c g l t K K2 K4 B KB σ (q.1, q.2.1, (n1 + q.2.2.1, n2 + q.2.2.2))) := by
    intro τ L' K5 n1 n2 sf m l2 k1 k2
    have mt := (MIn_fl (σ' := uI τ 1900 (σ.1 1900)) m rfl (fun j hj => uI_o (by omega)) (by rw [uI_o (by decide)]; exact m.2.2.2.2.2.2.1.2) (by rw [uI_o (by decide)]; exact Nat.le_refl _)).1
    have ph := Ph_s (σ := τ) (σ' := uI τ 1900 (σ.1 1900)) rfl
    refine Tm_suc (fun k => by rw [f_X3_save]) ?_
    rw [l2]
    refine Tm_some ⟨rfl, ⟨by show n1 + 0 + PhC (uI τ 1900 (σ.1 1900)) ≤ _; omega, by show n2 + 0 + PhS (uI τ 1900 (σ.1 1900)) ≤ _; omega⟩, ⟨fun j hj => ?_, sf.2.1, sf.2.2.1, sf.2.2.2.1, sf.2.2.2.2.1, sf.2.2.2.2.2⟩, K5, mt⟩
    show (uI τ 1900 (σ.1 1900)).1 j = σ.1 j
    by_cases e : j = 1900
    · rw [e, uI_s]
    · rw [uI_o e, sf.1 j hj, uI_o e]
  have b1 : ∀ (τ : CS) (L' : LV) (K5 : Nat → Option Int32) (n1 n2 : Nat), SvF (uI σ 1900 (L.1 1)) τ → MIn c g l t K K2 K5 K4 B KB τ → L'.1 2 = σ.1 1900 → n1 + PhC τ ≤ PhC σ → n2 + PhS τ ≤ PhS σ → Tm (fun k => f_X3_save k 1 L' τ) (fun q => AdQ c g l t K K2 K4 B KB σ (q.1, q.2.1, (n1 + q.2.2.1, n2 + q.2.2.2))) := by
    intro τ L' K5 n1 n2 sf m l2 k1 k2
    refine Tm_suc (fun k => by rw [f_X3_save]) ?_
    refine Tm_ite (fun _ => ?_) (fun _ => b2 _ _ _ _ _ sf m l2 k1 k2)
    refine Tm_oxk (Q := AdQ c g l t K K2 K4 B KB σ) (c_addNear m (RnO_e rn sf)) (fun q z => by rw [z.1]) (fun q z => ?_)
    obtain ⟨z1, z2, z3, K6, z4⟩ := z
    have c1 := z2.1
    have c2 := z2.2
    exact b2 _ _ _ _ _ (SvF_t sf z3) z4 l2 (by omega) (by omega)
  have b1' : ∀ (τ : CS) (L' : LV) (K5 : Nat → Option Int32), SvF (uI σ 1900 (L.1 1)) τ → MIn c g l t K K2 K5 K4 B KB τ → L'.1 2 = σ.1 1900 → PhC τ ≤ PhC σ → PhS τ ≤ PhS σ → Tm (fun k => f_X3_save k 1 L' τ) (AdQ c g l t K K2 K4 B KB σ) := by
    intro τ L' K5 sf m l2 k1 k2
    refine Tm_mono (b1 τ L' K5 0 0 sf m l2 (by omega) (by omega)) (fun q z => ⟨z.1, ⟨?_, ?_⟩, z.2.2⟩)
    · have z1 : 0 + q.2.2.1 + PhC q.2.1 ≤ PhC σ := z.2.1.1
      omega
    · have z1 : 0 + q.2.2.2 + PhS q.2.1 ≤ PhS σ := z.2.1.2
      omega
  refine Tm_suc (fun k => by rw [f_X3_save]) ?_
  refine Tm_ite (fun c7 => ?_) (fun _ => b1' _ _ _ (SvF_r _) m1 rfl (by omega) (by omega))
  refine Tm_oxc (c_add m1 rn c7) (fun q z => by rw [z.1]) (fun q z => ?_)
  obtain ⟨z1, z2, z3, K6, z4⟩ := z
  have c1 := z2.1
  have c2 := z2.2
  exact b1 _ _ _ _ _ z3 z4 rfl (by omega) (by omega)
theorem c_beginS : Tm (fun k => y_X3_beginStatement k 0 L σ) (fun q => (σ.1 1814 = 0 ∧ q.2 = uI (uI σ 1900 (L.1 2)) 1812 1) ∨ (¬ σ.1 1814 = 0 ∧ q.2 = uI (uI (uI (uI σ 1814 (σ.1 1814 - 1)) 1903 (σ.1 1903 + 1)) 1904 (L.1 1)) 1905 0)) := by
  refine Tm_suc (fun k => by rw [y_X3_beginStatement]) ?_
  refine Tm_ite (fun c0 => Tm_some (Or.inl ⟨c0, rfl⟩)) (fun c0 => ?_)
  refine Tm_suc (fun k => by rw [y_X3_beginStatement]) ?_
  refine Tm_suc (fun k => by rw [y_X3_beginStatement]) ?_
  refine Tm_some (Or.inr ⟨c0, ?_⟩)
  show uI (uI (uI (uI σ 1814 (σ.1 1814 - 1)) 1903 ((uI σ 1814 (σ.1 1814 - 1)).1 1903 + 1)) 1904 (L.1 1)) 1905 0 = _
  rw [uI_o (by decide)]
/-- it stands: at a statement, or behind an asked exp -/
def Sd (c : Ct) (B : Nat) (KB : Nat → Option Int32) (f0 u0 : Nat) (σ : CS) (r : RS) : Prop := r.1 = (0, 0) ∧ CoP σ r ∧ MFr σ r.2.1 ∧ (¬ tcS c u0 → EvF σ r.2.1) ∧ ∃ (g : Nat → Prop) (l : List Nat) (t : Nat) (K K2 K3 K4 : Nat → Option Int32), MIn c g l t K K2 K3 K4 B KB r.2.1 ∧ r.2.1.1 1812 = 1 ∧ ((tcS c u0 ∧ uN (r.2.1.1 1905) ≤ 60000 ∧ RUN c K (uN (r.2.1.1 1900)) (uN (r.2.1.1 1901)) (uN (r.2.1.1 1902)) (uN (r.2.1.1 1908)) 0) ∨ (u0 = 41 ∧ f0 + 4 < uN (r.2.1.1 1902) ∧ Gv g (r.2.1.2.2.1 20 (uN (r.2.1.1 1902) - 1))))
end CUE
end JnS420
section JnS421
/-! The class: BEGIN, END_VIEW. -/
section CUF
variable {g g' g2 : Nat → Prop} {l l' l2 : List Nat} {t t' t2 : Nat} {σ σ' σ2 τ τ' φ : CS} {L : LV} {x y z i : Int32} {M M' U U' : Nat → Int32} {K K' K0 K2 K2' K3 K3' K4 K4' KB : Nat → Option Int32} {c : Ct} {B f0 u0 a T : Nat} {fs : List FrT} {u d : Nat} {r r' : List Nat} {pb nf nc sq rk : Nat}
/-- what BEGIN asks -/
def Ok0 (c : Ct) (pc u d : Nat) (r : List Nat) (rk : Nat) : Prop := d = 0 ∧ ∃ (w : Nat) (ms : List Nat), r = (bsl + w) :: ms ∧ (∀ i, i ∈ ms → i < bsl) ∧ w ≤ 200 ∧ u < 41 ∧ tcS c u ∧ rk ≤ RK ∧ NxS c (pc + 1) u 0 r
/-- the run that stands at it -/
theorem RUN_b (p : Pre c g l t K K2 K3 K4 B KB f0 u0 σ fs u d r pb nf nc sq) {pc : Nat} (hz : f0 = 0 ∧ u0 = 0) (hp : pc < 268435456) (tD : tcD c pc = some (u, d, r, rk)) (ok : Ok0 c pc u d r rk) : RUN c K pc (uN (σ.1 1901)) (uN (σ.1 1902)) nc 0 := by
  obtain ⟨d0, w, ms, k1, k2, k3, k4, k5, k6, k7⟩ := ok
  obtain ⟨mi, ty, w5, h0, bo⟩ := p
  subst d0
  subst k1
  have fcb := (FC_b _ _ _ _ _ _ _ ty.2.1).2.2 k5
  refine ⟨u, w, rk, sq, fs, ms, ⟨tD, k2⟩, k6, ty.1, k3, by have z := ty.2.2.1; rw [bt_0] at z; exact z, k5, k4, ?_, ty.2.2.2.2.2.2.1, hp, ?_⟩
  · have z := ty.2.1
    rw [hz.1, hz.2, fcb.1, fcb.2.1] at z
    exact FC_k z (fun _ _ => rfl) (fun p hp => absurd hp (Nat.not_lt_zero p))
  · have tb := TyS_B ty
    rw [hz.1, hz.2] at tb
    refine ⟨by omega, fun j hj => ?_⟩
    have m7 := mi.2.2.2.2.2.2.1.1
    rw [mi.2.2.2.2.2.1 j (by omega)]
    rcases bo with y | y
    · omega
    · exact y.1 j
theorem c_begin (p : Pre c g l t K K2 K3 K4 B KB f0 u0 σ fs u d r pb nf nc sq) {pc : Nat} (hz : f0 = 0 ∧ u0 = 0) (h1 : L.1 1 = 0) (h3 : L.1 3 = nI pc) (hp : pc + 1 ≤ tcN c) (hN : tcN c ≤ 36864) (hpc : σ.1 1900 = nI (pc + 1)) (h7 : σ.1 1907 = 0) (tD : tcD c pc = some (u, d, r, rk)) (ok : Ok0 c pc u d r rk) : Tm (fun k => f_X3_flow k 0 L σ) (fun q => IO c B KB f0 u0 σ (mu σ (qv nf sq rk)) q ∨ Sd c B KB f0 u0 σ q) := by
  have mi := p.1
  have run := RUN_b p hz (by omega) tD ok
  have hx : uN (σ.1 1900) = pc + 1 := by rw [hpc, u_n (by omega)]
  have e3 : uN (L.1 3) = pc := by rw [h3, u_n (by omega)]
  obtain ⟨st1, st2, st3⟩ := mi.2.1.1
  obtain ⟨pt1, pt2, pt3⟩ := mi.2.1.2.2.1
  obtain ⟨m8, m9, m10, m11⟩ := mi.2.2.2.2.2.2.2
  have ty := p.2.1
  obtain ⟨d0, w, ms, k1, k2, k3, k4, cs, k6, k7⟩ := ok
  have cs0 := FC_S _ _ _ _ _ _ _ ty.2.1 cs
  have e08 : uN (σ.1 1908) = nc := ty.2.2.2.2.2.1 cs0
  have rn : RnO c K K2 (uI σ 1900 (L.1 3)) := by
    unfold RnO
    rw [uI_s, uI_o (by decide), uI_o (by decide), uI_o (by decide), uI_o (by decide), uI_o (by decide), uI_o (by decide), uI_o (by decide), uI_o (by decide), uI_o (by decide), e3, e08]
    exact ⟨run, ⟨h7, p.2.2.1⟩, ⟨by omega, m9, m10, m11, st1, pt1⟩, mi.2.2.2.1⟩
  have b9 : ∀ (τ : CS) (L' : LV) (K5 : Nat → Option Int32) (n1 n2 : Nat), SvF σ τ → MIn c g l t K K2 K5 K4 B KB τ → L'.1 3 = L.1 3 → n1 + PhC τ ≤ PhC σ → n2 + PhS τ ≤ PhS σ → Tm (fun k => f_X3_flow k 9 L' τ) (fun q => (fun z : RS => IO c B KB f0 u0 σ (mu σ (qv nf sq rk)) z ∨ Sd c B KB f0 u0 σ z) (q.1, q.2.1, (n1 + q.2.2.1, n2 + q.2.2.2))) := by
    intro τ L' K5 n1 n2 sf m l3 c1 c2
    have f := sf.1
    have mb := m.2.2.2.2.2.2.1.2
    refine Tm_suc (fun k => by rw [f_X3_flow]) ?_
    refine Tm_op c_beginS (fun q z => ?_)
    refine Tm_suc (fun k => by rw [f_X3_flow]) ?_
    refine Tm_some ?_
    rcases z with ⟨z1, z2⟩ | ⟨z1, z2⟩
    · right
      have z2' : q.2 = uI (uI τ 1900 (L.1 3)) 1812 1 := by rw [z2]; show uI (uI τ 1900 (L'.1 3)) 1812 1 = _; rw [l3]
      show Sd c B KB f0 u0 σ ((0, 0), q.2, (n1 + 0, n2 + 0))
      rw [z2']
      have o : ∀ j, ¬ (j = 1900 ∨ j = 1812) → (uI (uI τ 1900 (L.1 3)) 1812 1).1 j = σ.1 j ∨ True := fun _ _ => Or.inr trivial
      have mt := MIn_fl (σ' := uI (uI τ 1900 (L.1 3)) 1812 1) m rfl (fun j hj => by rw [uI_o (by omega), uI_o (by omega)]) (by rw [uI_o (by decide), uI_o (by decide)]; exact mb) (by rw [uI_o (by decide), uI_o (by decide)]; exact Nat.le_refl _)
      have ph := Ph_s (σ := τ) (σ' := uI (uI τ 1900 (L.1 3)) 1812 1) rfl
      refine ⟨rfl, ⟨by show n1 + 0 + PhC (uI (uI τ 1900 (L.1 3)) 1812 1) ≤ _; omega, by show n2 + 0 + PhS (uI (uI τ 1900 (L.1 3)) 1812 1) ≤ _; omega⟩, MFr_t (SvF_M sf) (Md_M mt.2), fun n => absurd cs0 n, g, l, t, K, K2, K5, K4, mt.1, uI_s, Or.inl ⟨cs0, ?_, ?_⟩⟩
      · show uN ((uI (uI τ 1900 (L.1 3)) 1812 1).1 1905) ≤ 60000
        rw [uI_o (by decide), uI_o (by decide), f 1905 (by decide)]; exact p.2.2.1
      show RUN c K (uN ((uI (uI τ 1900 (L.1 3)) 1812 1).1 1900)) (uN ((uI (uI τ 1900 (L.1 3)) 1812 1).1 1901)) (uN ((uI (uI τ 1900 (L.1 3)) 1812 1).1 1902)) (uN ((uI (uI τ 1900 (L.1 3)) 1812 1).1 1908)) 0
      rw [uI_o (by decide), uI_s, uI_o (by decide), uI_o (by decide), uI_o (by decide), uI_o (by decide), uI_o (by decide), uI_o (by decide), e3, f 1901 (by decide), f 1902 (by decide), f 1908 (by decide), e08]
      exact run
    · left
      have lp : 0 < uN (τ.1 1814) := by
        rcases Nat.eq_zero_or_pos (uN (τ.1 1814)) with y | y
        · exact absurd (u_eq.2 y) z1
        · exact y
      have m8' : uN (τ.1 1903) + uN (τ.1 1814) ≤ 10240000 := m.2.2.2.2.2.2.2.1
      have u1 : uN (1 : Int32) = 1 := rfl
      have el : uN (τ.1 1814 - 1) = uN (τ.1 1814) - 1 := by rw [u_sub (by omega), u1]
      have eb : uN (τ.1 1903 + 1) = uN (τ.1 1903) + 1 := u_inc (by omega)
      show IO c B KB f0 u0 σ (mu σ (qv nf sq rk)) ((0, 0), q.2, (n1 + 0, n2 + 0))
      rw [z2]
      generalize hφ : uI (uI (uI (uI τ 1814 (τ.1 1814 - 1)) 1903 (τ.1 1903 + 1)) 1904 ((lI (lI lZ 1 (L'.1 2)) 2 (L'.1 3)).1 1)) 1905 0 = φ
      have oe : φ.2 = τ.2 := by rw [← hφ]; rfl
      have o : ∀ j, ¬ (j = 1814 ∨ j = 1903 ∨ j = 1904 ∨ j = 1905) → φ.1 j = τ.1 j := fun j hj => by rw [← hφ, uI_o (by omega), uI_o (by omega), uI_o (by omega), uI_o (by omega)]
      have o5 : φ.1 1905 = 0 := by rw [← hφ, uI_s]
      have o4 : uN (φ.1 1814) = uN (τ.1 1814) - 1 := by rw [← hφ, uI_o (by decide), uI_o (by decide), uI_o (by decide), uI_s]; exact el
      have o3 : uN (φ.1 1903) = uN (τ.1 1903) + 1 := by rw [← hφ, uI_o (by decide), uI_o (by decide), uI_s]; exact eb
      have fe : ∀ j, ¬ (j = 1814 ∨ j = 1903 ∨ j = 1904 ∨ j = 1905 ∨ (2400 ≤ j ∧ j < 2410) ∨ (2800 ≤ j ∧ j < 3700)) → φ.1 j = σ.1 j := fun j hj => (o j (by omega)).trans (f j (by omega))
      have mt := MIn_fw (σ' := φ) m oe (fun j hj => o j (by omega)) (by rw [o 1902 (by decide)]; exact mb) (by rw [o 1902 (by decide)]; exact Nat.le_refl _) (by omega)
      have ph := Ph_s (σ := τ) (σ' := φ) (by rw [oe])
      obtain ⟨rk', ⟨d', r', q1, q2, q3⟩, q4, q5⟩ := k7
      have tyf : TyS c K K4 f0 u0 φ fs u d r pb nf nc sq := TyS_k ty ⟨fe 1901 (by decide), fe 1815 (by decide), fe 1811 (by decide), fe 1908 (by decide)⟩ (by rw [fe 1902 (by decide)]; exact ty.1) (fun _ _ => rfl) ty.2.2.1 ty.2.2.2.2.2.2.2.2
      have ql := qv_lt ty q4
      refine ⟨rfl, ⟨by show n1 + 0 + PhC φ ≤ _; omega, by show n2 + 0 + PhS φ ≤ _; omega⟩, MFr_t (SvF_M sf) (Mw_M mt.2), fun n => absurd cs0 n, g, l, t, K, K2, K5, K4, mt.1, fun _ => ⟨qv nf sq rk', ⟨by show uN (φ.1 1905) ≤ _; rw [o5]; exact Nat.zero_le _, u, d', r', rk', fs, pb, nf, nc, sq, Or.inl ⟨TyS_rs tyf (by rw [d0]; exact q2) q3, ?_, rfl⟩⟩, ?_⟩, fun zz => absurd ((fe 1812 (by decide)).trans p.2.2.2.1) zz⟩
      · show tcD c (uN (φ.1 1900)) = _
        rw [fe 1900 (by decide), hx]; exact q1
      · show mu φ (qv nf sq rk') < mu σ (qv nf sq rk)
        unfold mu
        have z0 : uN (0 : Int32) = 0 := rfl
        rw [o4, f 1814 (by decide), o5, z0]
        rw [f 1814 (by decide)] at lp
        have e : uN (σ.1 1814) * (60002 * QK) = (uN (σ.1 1814) - 1) * (60002 * QK) + 60002 * QK := by
          have := Nat.succ_mul (uN (σ.1 1814) - 1) (60002 * QK)
          rw [show (uN (σ.1 1814) - 1).succ = uN (σ.1 1814) by omega] at this
          exact this
        omega
  have b9' : ∀ (L' : LV), L'.1 3 = L.1 3 → Tm (fun k => f_X3_flow k 9 L' σ) (fun q => IO c B KB f0 u0 σ (mu σ (qv nf sq rk)) q ∨ Sd c B KB f0 u0 σ q) := by
    intro L' l3
    refine Tm_mono (b9 σ L' K3 0 0 (SvF_r σ) mi l3 (by omega) (by omega)) (fun q z => ?_)
    have z' : IO c B KB f0 u0 σ (mu σ (qv nf sq rk)) (q.1, q.2.1, (0 + q.2.2.1, 0 + q.2.2.2)) ∨ Sd c B KB f0 u0 σ (q.1, q.2.1, (0 + q.2.2.1, 0 + q.2.2.2)) := z
    rw [Nat.zero_add, Nat.zero_add] at z'
    exact z'
  have b10 : ∀ (L' : LV), L'.1 3 = L.1 3 → Tm (fun k => f_X3_flow k 10 L' σ) (fun q => IO c B KB f0 u0 σ (mu σ (qv nf sq rk)) q ∨ Sd c B KB f0 u0 σ q) := by
    intro L' l3
    refine Tm_suc (fun k => by rw [f_X3_flow]) ?_
    rw [l3]
    refine Tm_oxc (c_save (L := lI lZ 1 (L.1 3)) mi rn) (fun q z => by rw [z.1]) (fun q z => ?_)
    obtain ⟨z1, z2, z3, K6, z4⟩ := z
    exact b9 _ _ K6 _ _ z3 z4 l3 z2.1 z2.2
  refine Tm_suc (fun k => by rw [f_X3_flow]) ?_
  refine Tm_yes h1 ?_
  refine Tm_suc (fun k => by rw [f_X3_flow]) ?_
  refine Tm_ite (fun _ => b9' _ rfl) (fun _ => Tm_ite (fun _ => b10 _ rfl) (fun _ => Tm_ite (fun _ => b10 _ rfl) (fun _ => b9' _ rfl)))
/-- END_VIEW -/
theorem c_endView (p : Pre c g l t K K2 K3 K4 B KB f0 u0 σ fs u d r pb nf nc sq) (hd : 1 ≤ d) (hu : u0 = 41) {op : Nat} (h0 : 10 ≤ op) (ho : op < 256) (h1 : L.1 1 = nI op) : Tm (fun k => f_X3_flow k 0 L σ) (Sd c B KB f0 u0 σ) := by
  have mi := p.1
  have ts := TyS_sp p.2.1
  have mb := mi.2.2.2.2.2.2.1.2
  have gt : Gv g (σ.2.2.1 20 (uN (σ.1 1902) - 1)) := Ty_v p (by omega) (by omega)
  refine Tm_mono (c_flowV h0 ho h1) (fun q z => ?_)
  have mt := MIn_fl (σ' := uI σ 1812 1) mi rfl (fun j hj => uI_o (by omega)) (by rw [uI_o (by decide)]; exact mb) (by rw [uI_o (by decide)]; exact Nat.le_refl _)
  rw [z]
  refine ⟨rfl, CoP_0 rfl, Md_M mt.2, fun _ => Md_E mt.2, g, l, t, K, K2, K3, K4, mt.1, uI_s, Or.inr ⟨hu, ?_, ?_⟩⟩
  · show f0 + 4 < uN ((uI σ 1812 1).1 1902)
    rw [uI_o (by decide)]; omega
  · show Gv g ((uI σ 1812 1).2.2.1 20 (uN ((uI σ 1812 1).1 1902) - 1))
    rw [uI_o (by decide)]; exact gt
end CUF
end JnS421
section JnS422
/-! The class: one instruction. -/
section CUG
variable {g g' g2 : Nat → Prop} {l l' l2 : List Nat} {t t' t2 : Nat} {σ σ' σ2 τ τ' φ : CS} {L : LV} {x y z i : Int32} {M M' U U' : Nat → Int32} {K K' K0 K2 K2' K3 K3' K4 K4' KB : Nat → Option Int32} {c : Ct} {B f0 u0 a T : Nat} {fs : List FrT} {u d : Nat} {r r' : List Nat} {pb nf nc sq rk : Nat}
/-- so many places on top hold values, or pinned tuples -/
def TpV : Nat → List Nat → Nat → Prop
  | d, [], D => D ≤ d
  | d, e :: s, D => D ≤ d ∨ (500000 ≤ e ∧ e < 750000 ∧ TpV (e - 500000) s (D - (d + 1)))
theorem TpV_v {lo : Nat} : ∀ (r : List Nat) (hi d D : Nat), SL K lo hi d r → TpV d r D → D ≤ hi ∧ ∀ q, hi ≤ q + D → q < hi → K q = none ∨ K q = some mkT
  | [], hi, d, D, h, v => by
    have v' : D ≤ d := v
    have le := (SL_le _ _ _ h).2
    exact ⟨by omega, fun q h1 h2 => Or.inl (SL_top _ _ _ h q (by omega) h2)⟩
  | e :: s, hi, d, D, h, v => by
    have le := (SL_le _ _ _ h).2
    rcases v with v | ⟨v1, v2, v3⟩
    · exact ⟨by omega, fun q h1 h2 => Or.inl (SL_top _ _ _ h q (by omega) h2)⟩
    · obtain ⟨b, e', r', a1, a2, a3, a4, a5⟩ := h.2.2 (by unfold bsl; omega) (by omega)
      have p1 : pk e = 1 := if_neg (by omega)
      have p2 : pm e = mkT := by unfold pm; rw [if_neg (by omega), if_pos (by omega)]
      have p3 : e % 250000 = e - 500000 := by omega
      rw [p3] at a2
      rw [p1] at a1 a4
      rw [p2] at a4
      have z := TpV_v s b (e - 500000) (D - (d + 1)) a2 v3
      refine ⟨by omega, fun q h1 h2 => ?_⟩
      by_cases c1 : hi ≤ q + d
      · exact Or.inl (SL_top _ _ _ h q c1 h2)
      · by_cases c2 : q = b
        · exact Or.inr (a4 q (by omega) (by omega))
        · exact z.2 q (by omega) (by omega)
/-- what READ asks, and WRITE -/
def Ok8 (c : Ct) (pc u d : Nat) (r : List Nat) (rk op : Nat) (num : Int32) : Prop := ∃ P D, (uN (tcC c (pc + 2)) = P ∧ uN (tcC c (pc + 1)) = D ∧ pc + 3 + P ≤ tcN c) ∧ Wd (tcC c) (pc + 3) P ≤ D ∧ TpV d r D ∧ (op = 176 → uN num < 500000 ∧ HasM (500000 + uN num) r) ∧ (¬ op = 176 → uN num < tcF c 0) ∧ Nx c (pc + 3 + P) u (d + 1) r rk
def Ok9 (c : Ct) (pc u d : Nat) (r : List Nat) (rk op : Nat) (num : Int32) : Prop := ∃ P D, (uN (tcC c (pc + 2)) = P ∧ uN (tcC c (pc + 1)) = D ∧ pc + 3 + P ≤ tcN c) ∧ Wd (tcC c) (pc + 3) P + 1 ≤ D ∧ TpV d r D ∧ (1 ≤ d ∧ tcS c u) ∧ (op = 192 → uN num < 500000 ∧ HasM (500000 + uN num) r ∧ SlB r ∧ AllM (fun i => ¬ i = uN num) r) ∧ (¬ op = 192 → uN num < tcF c 0) ∧ Nx c (pc + 3 + P) u d r rk
/-- what an instruction asks -/
def OKI (c : Ct) (pc u d : Nat) (r : List Nat) (rk op : Nat) (num : Int32) : Prop := (op = 0 → Ok0 c pc u d r rk) ∧ (1 ≤ op → op < 10 → Ok1 c pc u d r rk op num) ∧ (10 ≤ op → op < 16 → u = 41 ∧ 1 ≤ d) ∧ (16 ≤ op → op < 32 → (op = 17 → pc + 1 < tcN c) ∧ Ok7 c pc u d r rk op num) ∧ (32 ≤ op → op < 48 → Ok2 c pc u d r rk op num) ∧ (48 ≤ op → op < 64 → Ok3 c pc u d r rk op num) ∧ (64 ≤ op → op < 80 → op ≤ 73 ∧ uN num < 200 ∧ Ok4 c pc u d r rk op (uN num)) ∧ (80 ≤ op → op < 96 → Ok5 c pc u d r rk op num) ∧ (96 ≤ op → op < 112 → Ok6 c pc u d r rk op num) ∧ (112 ≤ op → op < 128 → op = 112 ∧ 1 ≤ d ∧ ∃ e0 r1 rk', r = e0 :: r1 ∧ d + 1 < 250000 ∧ tcD c (pc + 1) = some (u + 100, 0, (750000 + (d + 1)) :: r, rk') ∧ (1000 ≤ rk' ∧ rk' ≤ rk) ∧ NxS c (pc + 2) u d r) ∧ (128 ≤ op → op < 144 → ∃ d', d = d' + 2 ∧ NxS c (pc + 1) u (d' + 1) r) ∧ ((144 ≤ op ∧ op < 160) ∨ 208 ≤ op → ∃ d', d = d' + uN num ∧ tcS c u ∧ Nx c (pc + 1) u d' r rk) ∧ (160 ≤ op → op < 176 → 1 ≤ d ∧ NxS c (pc + 1) u d r) ∧ (176 ≤ op → op < 192 → Ok8 c pc u d r rk op num) ∧ (192 ≤ op → op < 208 → Ok9 c pc u d r rk op num)
theorem IO_0 {q : RS} {m : Nat} (h : IO c B KB f0 u0 σ m q) : IO c B KB f0 u0 σ m ((0, 0), q.2.1, (q.2.2.1, q.2.2.2)) := by
  obtain ⟨h1, h2, h3⟩ := h
  exact ⟨rfl, ⟨h2.1, h2.2⟩, h3⟩
theorem Sd_0 {q : RS} (h : Sd c B KB f0 u0 σ q) : Sd c B KB f0 u0 σ ((0, 0), q.2.1, (q.2.2.1, q.2.2.2)) := by
  obtain ⟨h1, h2, h3⟩ := h
  exact ⟨rfl, ⟨h2.1, h2.2⟩, h3⟩
theorem Sd_b {q : RS} (a : Md σ σ') (es : σ'.2.2.2.2.1 = σ.2.2.2.2.1) (h : Sd c B KB f0 u0 σ' q) : Sd c B KB f0 u0 σ q := by
  obtain ⟨h1, h2, h3, h4, h5⟩ := h
  have ph := Ph_s es
  exact ⟨h1, ⟨by rw [← ph.1]; exact h2.1, by rw [← ph.2]; exact h2.2⟩, MFr_t (Md_M a) h3, fun n j j1 j2 j3 => (h4 n j j1 j2 j3).trans (Md_E a j j1 j2 j3), h5⟩
/-- the program's own variables -/
theorem gl_v (p : Pre c g l t K K2 K3 K4 B KB f0 u0 σ fs u d r pb nf nc sq) {n : Nat} (h : n < tcF c 0) : K (4 + n) = none ∧ 4 + n < uN (σ.1 1902) ∧ Gv g (σ.2.2.1 20 (4 + n)) := by
  have mi := p.1
  have mb := mi.2.2.2.2.2.2.1
  have kn : K (4 + n) = none := by
    rw [mi.2.2.2.2.2.1 _ (by omega)]
    rcases p.2.2.2.2 with y | y
    · exact (y.2 _ (by omega)).trans (KH_n (by omega))
    · exact (y.1 _).trans (KH_n (by omega))
  exact ⟨kn, by omega, (mi.2.1.1.2.2 _ (by omega)).2.1 kn⟩
theorem lo_v (p : Pre c g l t K K2 K3 K4 B KB f0 u0 σ fs u d r pb nf nc sq) {n : Nat} (hn : n < 500000) (h : HasM (500000 + n) r) : n < bt d r ∧ uN (σ.1 1901) + 4 + n < uN (σ.1 1902) ∧ Gv g (σ.2.2.1 20 (uN (σ.1 1901) + 4 + n)) := by
  have z := SL_hv hn _ _ _ p.2.1.1 h
  have ts := TyS_sp p.2.1
  exact ⟨z.1, by omega, Rwk_v p.1.2.1.1.2.2 (by omega) z.2⟩
theorem u41 : ∀ (fs : List FrT) (fp pb nf nc sq : Nat), FC c K K4 f0 u0 fs fp 41 pb nf nc sq → ¬ tcK c 41 → u0 = 41
  | [], fp, pb, nf, nc, sq, h, _ => h.2.1.symm
  | q :: fs, fp, pb, nf, nc, sq, h, n => by
    obtain ⟨⟨bk, rb, z2, z3, a, b, s, f1, f2, f3, k⟩, w⟩ := h
    rcases k with k | k
    · exact absurd k.1 n
    · exact absurd rfl k.1.2
theorem c_disp (p : Pre c g l t K K2 K3 K4 B KB f0 u0 σ fs u d r pb nf nc sq) (by0 : BY (tcS c u0) σ) {pc op : Nat} {b : Bool} {num : Int32} (eb : sPr σ = some b) (hk : L.2.2.1 1 = sKd σ b) (h4 : L.1 4 = nI pc) (tD : tcD c pc = some (u, d, r, rk)) (hop : tcC c pc &&& 255 = nI op) (ho : op < 256) (hnum : tcC c pc >>> ((8 : Int32) &&& 31) = num) (hp : pc + 1 ≤ tcN c) (hN : tcN c ≤ 36864) (hu : ¬ tcK c u0) (k41 : ¬ tcK c 41) (hz : tcS c u0 → f0 = 0 ∧ u0 = 0) (ck : OKI c pc u d r rk op num) {Q : RS → Prop} (cont : ∀ (L' : LV) (τ : CS) (n1 n2 : Nat), (IO c B KB f0 u0 σ (mu σ (qv nf sq rk)) ((0, 0), τ, (n1, n2)) ∨ Sd c B KB f0 u0 σ ((0, 0), τ, (n1, n2))) → BY (tcS c u0) τ → L'.2.1 2 = L.2.1 2 → L'.2.2.1 1 = L.2.2.1 1 → Tm (fun k => f_X3_execute k 19 L' τ) (fun q => Q (q.1, q.2.1, (n1 + q.2.2.1, n2 + q.2.2.2)))) : Tm (fun k => f_X3_execute k 5 L σ) Q := by
  have hpc1 : nI pc + 1 = nI (pc + 1) := u_eq.2 (by rw [u_inc (by rw [u_n (by omega)]; omega), u_n (by omega), u_n (by omega)])
  have p1 := Pre_i p (j := 1900) (Or.inr (Or.inl rfl)) (nI (pc + 1))
  have by1 : BY (tcS c u0) (uI σ 1900 (nI (pc + 1))) := BY_I (by decide) by0
  have md : Md σ (uI σ 1900 (nI (pc + 1))) := Md_i σ (by decide) _
  have hpc : (uI σ 1900 (nI (pc + 1))).1 1900 = nI (pc + 1) := uI_s
  have cr := Ct_row p.1.2.2.1 eb
  have cr1 : (uI σ 1900 (nI (pc + 1))).2.2.1 (pR0 (sKd σ b)) = tcC c := cr.1
  have c4 : (nI pc).toNatClampNeg = pc := by rw [u_cl (by rw [u_n (by omega)]; omega), u_n (by omega)]
  have i4 : ¬ (nI pc < 0 ∨ sN (uI σ 1900 (nI (pc + 1))) (pR0 (sKd σ b)) ≤ (nI pc).toNatClampNeg) := u_in (by show uN (nI pc) < sN σ (pR0 (sKd σ b)); rw [cr.2.1, u_n (by omega)]; omega) (by show sN σ (pR0 (sKd σ b)) ≤ _; rw [cr.2.1]; omega)
  have r13 : (uI σ 1900 (nI (pc + 1))).1 1813 = 0 := by rw [uI_o (by decide)]; exact (by0.2.2.2.2.2 p.2.2.2.1).1
  have r07 : tcS c u0 → (uI σ 1900 (nI (pc + 1))).1 1907 = 0 := fun cs => by rw [uI_o (by decide)]; exact (by0.2.2.2.2.2 p.2.2.2.1).2 cs
  generalize hω : uI σ 1900 (nI (pc + 1)) = ω at *
  have es : ω.2.2.2.2.1 = σ.2.2.2.2.1 := by rw [← hω]; rfl
  have mE : mu ω (qv nf sq rk) = mu σ (qv nf sq rk) := by rw [← hω]; exact mu_e (uI_o (by decide)) (uI_o (by decide)) _
  have hx : uN (ω.1 1900) = pc + 1 := by rw [hpc, u_n (by omega)]
  have io : ∀ {q : RS}, IO c B KB f0 u0 ω (mu ω (qv nf sq rk)) q → IO c B KB f0 u0 σ (mu σ (qv nf sq rk)) ((0, 0), q.2.1, (q.2.2.1, q.2.2.2)) := fun h => by
    rw [mE] at h
    exact IO_0 (IO_b md es h)
  have io2 : ∀ {τ : CS} {n1 n2 : Nat}, IO c B KB f0 u0 ω (mu ω (qv nf sq rk)) ((0, 0), τ, (n1 + 0, n2 + 0)) → IO c B KB f0 u0 σ (mu σ (qv nf sq rk)) ((0, 0), τ, (n1, n2)) := fun h => by
    rw [mE] at h
    exact IO_b md es h
  have sd : ∀ {q : RS}, Sd c B KB f0 u0 ω q → Sd c B KB f0 u0 σ ((0, 0), q.2.1, (q.2.2.1, q.2.2.2)) := fun h => Sd_0 (Sd_b md es h)
  obtain ⟨o0, o1, o10, o16, o32, o48, o64, o80, o96, o112, o128, o144, o160, o176, o192⟩ := ck
  have h16 : ∀ n, n < 256 → nI (op / 16) = nI n → op / 16 = n := fun n hn e => (op_n (by omega) hn).1 e
  obtain ⟨st1, st2, st3⟩ := p1.1.2.1.1
  have ts := TyS_sp p1.2.1
  have u1 : uN (1 : Int32) = 1 := rfl
  have ic : ∀ {q : RS}, IO c B KB f0 u0 ω (mu ω (qv nf sq rk)) q → q.1.1 = 0 := fun h => by rw [h.1]
  have fin : ∀ (L' : LV) (τ : CS), IO c B KB f0 u0 ω (mu ω (qv nf sq rk)) ((0, 0), τ, (0, 0)) → BY (tcS c u0) τ → L'.2.1 2 = L.2.1 2 → L'.2.2.1 1 = L.2.2.1 1 → Tm (fun k => f_X3_execute k 19 L' τ) Q := by
    intro L' τ h hb e1 e2
    refine Tm_mono (cont L' τ 0 0 (Or.inl (io h)) hb e1 e2) (fun q z => ?_)
    rw [Nat.zero_add, Nat.zero_add] at z
    exact z
  have s2 : 1 ≤ d → uN (ω.1 1902 - 1) = uN (ω.1 1902) - 1 := fun h => by rw [u_sub (by omega), u1]
  have gtop : 1 ≤ d → Gv g (ω.2.2.1 20 (ω.1 1902 - 1).toNatClampNeg) := fun h => by rw [u_cl (by have := s2 h; omega), s2 h]; exact Ty_v p1 (by omega) (by omega)
  have itop : 1 ≤ d → ¬ (ω.1 1902 - 1 < 0 ∨ sN ω 20 ≤ (ω.1 1902 - 1).toNatClampNeg) := fun h => u_in (by have := s2 h; omega) (by omega)
  have b21 : ∀ (L' : LV) (n : Nat), uN (L'.1 100) = n → n < uN (ω.1 1902) → Gv g (ω.2.2.1 20 n) → L'.1 4 = nI pc → L'.2.1 2 = L.2.1 2 → L'.2.2.1 1 = L.2.2.1 1 → Ok8 c pc u d r rk op num → Tm (fun k => f_X3_execute k 21 L' ω) Q := by
    intro L' n l1 ln gn l4 e1 e2 ok
    obtain ⟨P, D, ⟨q1, q2, q3⟩, q4, q5, q6, q7, q8⟩ := ok
    have tv := TpV_v _ _ _ _ p1.2.1.1 q5
    refine Tm_suc (fun k => by rw [f_X3_execute]) ?_
    exact Tm_oxc (Tm_Bf (c_read p1 l4 q1 q2 q3 hN (by show uN (L'.1 100) < _; rw [l1]; exact ln) tv.1 q4 tv.2 (by show Gv g (ω.2.2.1 20 (uN (L'.1 100))); rw [l1]; exact gn) q8) (fun k => kb_f_X3_read _ _ _ _ by1)) (fun q z => z.1.1) (fun q z => cont _ _ _ _ (Or.inl (io2 z.1.2)) z.2 e1 e2)
  have b25 : ∀ (L' : LV) (n : Nat), uN (L'.1 102) = n → n < uN (ω.1 1902) → Gv g (ω.2.2.1 20 n) → SlW K (uN (ω.1 1901)) d r n → L'.1 101 = nI pc → L'.2.1 2 = L.2.1 2 → L'.2.2.1 1 = L.2.2.1 1 → Ok9 c pc u d r rk op num → Tm (fun k => f_X3_execute k 25 L' ω) Q := by
    intro L' n l1 ln gn sl l4 e1 e2 ok
    obtain ⟨P, D, ⟨q1, q2, q3⟩, q4, q5, ⟨q6, q7⟩, q8, q9, q10⟩ := ok
    have tv := TpV_v _ _ _ _ p1.2.1.1 q5
    refine Tm_suc (fun k => by rw [f_X3_execute]) ?_
    exact Tm_oxc (Tm_Bf (c_writeM p1 (FC_S _ _ _ _ _ _ _ p1.2.1.2.1 q7) l1 l4 q1 q2 q3 hN q6 ln sl tv.1 q4 tv.2 gn q10) (fun k => kb_f_X3_write _ _ _ _ by1)) (fun q z => z.1.1) (fun q z => cont _ _ _ _ (Or.inl (io2 z.1.2)) z.2 e1 e2)
  have gl := fun (n : Nat) (h : n < tcF c 0) => gl_v p1 h
  have lv := fun (n : Nat) (h : n < 500000) (h2 : HasM (500000 + n) r) => lo_v p1 h h2
  have ug : uN num < 91000 → uN (4 + num) = 4 + uN num := fun h => by rw [u_add (by show uN (4 : Int32) + _ < _; have : uN (4 : Int32) = 4 := rfl; omega)]; rfl
  have ul : uN num < 91000 → uN (ω.1 1901 + 4 + num) = uN (ω.1 1901) + 4 + uN num := fun h => by
    have e4 : uN (4 : Int32) = 4 := rfl
    rw [u_add (by rw [u_add (by omega), e4]; omega), u_add (by omega), e4]
  have b15 : ∀ L' : LV, L'.1 6 = num → L'.2.1 2 = L.2.1 2 → L'.2.2.1 1 = L.2.2.1 1 → (∃ d', d = d' + uN num ∧ tcS c u ∧ Nx c (pc + 1) u d' r rk) → Tm (fun k => f_X3_execute k 15 L' ω) Q := by
    intro L' l6 e1 e2 hh
    obtain ⟨d', q1, q2, q3⟩ := hh
    refine Tm_suc (fun k => by rw [f_X3_execute]) ?_
    rw [l6]
    exact Tm_oxc (Tm_Bf (c_printM p1 (FC_S _ _ _ _ _ _ _ p1.2.1.2.1 q2) by1 q1 rfl (by rw [hx]; exact q3)) (fun k => kb_f_X3_print _ _ _ _ by1)) (fun q z => z.1.1) (fun q z => cont _ _ _ _ (Or.inl (io2 z.1.2)) z.2 e1 e2)
  refine Tm_suc (fun k => by rw [f_X3_execute]) ?_
  rw [hk, h4, hpc1, hω]
  refine Tm_chk i4 (Tm_chk i4 ?_)
  rw [cr1, c4, hop, n_shr4 (by omega), hnum]
  refine Tm_ite (fun q => ?_) (fun n0 => Tm_ite (fun q => ?_) (fun n1 => Tm_ite (fun q => ?_) (fun n2 => Tm_ite (fun q => ?_) (fun n3 => Tm_ite (fun q => ?_) (fun n4 => Tm_ite (fun q => ?_) (fun n5 => Tm_ite (fun q => ?_) (fun n6 => Tm_ite (fun q => ?_) (fun n7 => Tm_ite (fun q => ?_) (fun n8 => Tm_ite (fun q => ?_) (fun n9 => Tm_ite (fun q => ?_) (fun n10 => Tm_ite (fun q => ?_) (fun n11 => Tm_ite (fun q => ?_) (fun n12 => ?_)))))))))))))
  · have h := h16 0 (by decide) q
    refine Tm_suc (fun k => by rw [f_X3_execute]) ?_
    by_cases z0 : op = 0
    · have ok := o0 z0
      have ok' := ok
      obtain ⟨d0, w, ms, k1, k2, k3, k4, cs, k6, k7⟩ := ok'
      have cs0 := FC_S _ _ _ _ _ _ _ p1.2.1.2.1 cs
      exact Tm_oxc (Tm_Bf (c_begin p1 (hz cs0) (by show nI op = 0; rw [z0]; rfl) h4 hp hN hpc (r07 cs0) tD ok) (fun k => kb_f_X3_flow _ _ _ _ by1)) (fun q z => z.1.elim (fun y => by rw [y.1]) (fun y => by rw [y.1])) (fun q z => cont _ _ _ _ (z.1.imp io sd) z.2 rfl rfl)
    · by_cases z1 : op < 10
      · exact Tm_oxc (Tm_Bf (c_flow p1 (by omega) z1 rfl h4 hp hN hpc (fun z => (hz z).1) (o1 (by omega) z1)) (fun k => kb_f_X3_flow _ _ _ _ by1)) (fun q z => ic z.1) (fun q z => cont _ _ _ _ (Or.inl (io z.1)) z.2 rfl rfl)
      · obtain ⟨k1, k2⟩ := o10 (by omega) (by omega)
        have k3 : u0 = 41 := by
          have f := p1.2.1.2.1
          rw [k1] at f
          exact u41 _ _ _ _ _ _ f k41
        exact Tm_oxc (Tm_Bf (c_endView p1 k2 k3 (by omega) ho rfl) (fun k => kb_f_X3_flow _ _ _ _ by1)) (fun q z => by rw [z.1.1]) (fun q z => cont _ _ _ _ (Or.inr (sd z.1)) z.2 rfl rfl)
  · have h := h16 1 (by decide) q
    obtain ⟨k1, k2⟩ := o16 (by omega) (by omega)
    refine Tm_suc (fun k => by rw [f_X3_execute]) ?_
    exact Tm_oxc (Tm_Bf (c_calls p1 (by omega) ho rfl hp k1 hN hpc hu hz k2) (fun k => kb_f_X3_callsAndPoints _ _ _ _ by1)) (fun q z => ic z.1) (fun q z => cont _ _ _ _ (Or.inl (io z.1)) z.2 rfl rfl)
  · have h := h16 2 (by decide) q
    refine Tm_suc (fun k => by rw [f_X3_execute]) ?_
    exact Tm_oxc (Tm_Bf (c_data p1 ho (by omega) rfl h4 hp hN hpc (o32 (by omega) (by omega))) (fun k => kb_f_X3_data _ _ _ _ by1)) (fun q z => ic z.1) (fun q z => cont _ _ _ _ (Or.inl (io z.1)) z.2 rfl rfl)
  · have h := h16 3 (by decide) q
    refine Tm_suc (fun k => by rw [f_X3_execute]) ?_
    exact Tm_oxc (Tm_Bf (c_makeValue p1 ho (by omega) rfl hp hN hpc (o48 (by omega) (by omega))) (fun k => kb_f_X3_makeValue _ _ _ _ by1)) (fun q z => ic z.1) (fun q z => cont _ _ _ _ (Or.inl (io z.1)) z.2 rfl rfl)
  · have h := h16 4 (by decide) q
    obtain ⟨k1, k2, k3⟩ := o64 (by omega) (by omega)
    refine Tm_suc (fun k => by rw [f_X3_execute]) ?_
    exact Tm_oxc (Tm_Bf (c_iterate p1 (by omega) k1 rfl h4 hp hN hpc k2 r13 k3) (fun k => kb_f_X3_iterate _ _ _ _ by1)) (fun q z => ic z.1) (fun q z => cont _ _ _ _ (Or.inl (io z.1)) z.2 rfl rfl)
  · have h := h16 5 (by decide) q
    refine Tm_suc (fun k => by rw [f_X3_execute]) ?_
    exact Tm_oxc (Tm_Bf (c_gather p1 ho (by omega) rfl hp hN hpc (o80 (by omega) (by omega))) (fun k => kb_f_X3_gather _ _ _ _ by1)) (fun q z => ic z.1) (fun q z => cont _ _ _ _ (Or.inl (io z.1)) z.2 rfl rfl)
  · have h := h16 6 (by decide) q
    refine Tm_suc (fun k => by rw [f_X3_execute]) ?_
    exact Tm_oxc (Tm_Bf (c_partly p1 ho (by omega) rfl h4 hp hN hpc (o96 (by omega) (by omega))) (fun k => kb_f_X3_partly _ _ _ _ by1)) (fun q z => ic z.1) (fun q z => cont _ _ _ _ (Or.inl (io z.1)) z.2 rfl rfl)
  · have h := h16 7 (by decide) q
    obtain ⟨k1, k2, e0, r1, rk', k3, k4, k5, k6, k7⟩ := o112 (by omega) (by omega)
    have fo : Tm (fun k => f_X3_foldOn k 0 (lI (lI (lI lZ 1 (nI op)) 2 num) 3 (L.1 4)) ω) (IO c B KB f0 u0 ω (mu ω (qv nf sq rk))) := by
      refine Tm_suc (fun k => by rw [f_X3_foldOn]) ?_
      refine Tm_yes (by show nI op = 112; rw [k1]; rfl) ?_
      exact Tm_oxc (c_fold p1 k2 hp hN hpc k3 k4 k5 k6 k7) (fun q z => z.1) (fun q z => Tm_some z.2)
    refine Tm_suc (fun k => by rw [f_X3_execute]) ?_
    exact Tm_oxc (Tm_Bf fo (fun k => kb_f_X3_foldOn _ _ _ _ by1)) (fun q z => ic z.1) (fun q z => cont _ _ _ _ (Or.inl (io z.1)) z.2 rfl rfl)
  · have h := h16 8 (by decide) q
    obtain ⟨d', k1, k2⟩ := o128 (by omega) (by omega)
    obtain ⟨pd, es2⟩ := Pre_dr (x := 1) (d' := d' + 1) (n := 1) p1 (by omega) rfl k2.choose_spec.2.2
    have t2' : d' + 2 ≤ uN (ω.1 1902) := by have := ts.1; omega
    have ea : uN (ω.1 1902 - 1 - 1) = uN (ω.1 1902) - 2 := by rw [u_sub (by rw [es2, u1]; omega), es2, u1]; omega
    have ga : Gv g (ω.2.2.1 20 (ω.1 1902 - 1 - 1).toNatClampNeg) := by rw [u_cl (by rw [ea]; omega), ea]; exact Ty_v p1 (by omega) (by omega)
    have byd : BY (tcS c u0) (uI ω 1902 (ω.1 1902 - 1)) := BY_I (by decide) by1
    refine Tm_suc (fun k => by rw [f_X3_execute]) ?_
    refine Tm_chk (u_in (by show uN (ω.1 1902 - 1 - 1) < sN ω 20; omega) (by show sN ω 20 ≤ _; omega)) ?_
    refine Tm_chk (u_in (by show uN (ω.1 1902 - 1) < sN ω 20; omega) (by show sN ω 20 ≤ _; omega)) ?_
    refine Tm_op (Tm_By (c_binary pd.1.1 ga (gtop (by omega))) (fun k => kb_y_X0_binary _ _ _ _ byd)) (fun q3 z => ?_)
    obtain ⟨⟨g', l', t', ga', v⟩, by3⟩ := z
    refine Tm_op (Tm_By (reX (σ := ω) (Pre_Ga pd ga') (by omega) (Md_t (Md_i ω (by decide) _) (Md_S (Sm_A ga'.2.2.2.2))) (by rw [ga'.2.2.2.2.2.2.2]; rfl) (ga'.2.2.2.2.1 1905 (by decide)) (ga'.2.2.2.2.1 1814 (by decide)) (v.elim id Gv_rw) (by rw [ga'.2.2.2.2.1 1900 (by decide)]; show NxS c (uN (ω.1 1900)) u (d' + 1) r; rw [hx]; exact k2) (qv nf sq rk)) (fun k => kb_y_X3_replace _ _ _ _ by3)) (fun q4 z4 => ?_)
    exact fin _ _ z4.1 z4.2 rfl rfl
  · have h := h16 9 (by decide) q
    exact b15 _ rfl rfl rfl (o144 (Or.inl ⟨by omega, by omega⟩))
  · have h := h16 10 (by decide) q
    obtain ⟨k1, k2⟩ := o160 (by omega) (by omega)
    refine Tm_suc (fun k => by rw [f_X3_execute]) ?_
    refine Tm_chk (itop k1) ?_
    refine Tm_oxc (Tm_Bf (c_unary p1.1.1 (gtop k1)) (fun k => kb_f_X0_unary _ _ _ _ by1)) (fun q z => z.1.1) (fun q3 z => ?_)
    obtain ⟨⟨z1, z2, g', l', t', ga', v⟩, by3⟩ := z
    rw [z2]
    refine Tm_mono (Q := Q) ?_ (fun q z => by
      show Q (q.1, q.2.1, (0 + q.2.2.1, 0 + q.2.2.2))
      rw [Nat.zero_add, Nat.zero_add]; exact z)
    refine Tm_op (Tm_By (reX (σ := ω) (Pre_Ga p1 ga') k1 (Md_S (Sm_A ga'.2.2.2.2)) (by rw [ga'.2.2.2.2.2.2.2]) (ga'.2.2.2.2.1 1905 (by decide)) (ga'.2.2.2.2.1 1814 (by decide)) (v.elim id Gv_rw) (by rw [ga'.2.2.2.2.1 1900 (by decide), hx]; exact k2) (qv nf sq rk)) (fun k => kb_y_X3_replace _ _ _ _ by3)) (fun q4 z4 => ?_)
    exact fin _ _ z4.1 z4.2 rfl rfl
  · have h := h16 11 (by decide) q
    have ok := o176 (by omega) (by omega)
    have ok' := ok
    obtain ⟨P, D, q1, q4, q5, q6, q7, q8⟩ := ok'
    refine Tm_suc (fun k => by rw [f_X3_execute]) ?_
    refine Tm_ite (fun c1 => ?_) (fun c1 => ?_)
    · have z := q6 ((op_n ho (by decide)).1 c1)
      have w := lv _ z.1 z.2
      exact b21 _ _ (ul (by omega)) w.2.1 w.2.2 h4 rfl rfl ok
    · have z := q7 (fun e => c1 (by show nI op = 176; rw [e]; rfl))
      have w := gl _ z
      refine Tm_suc (fun k => by rw [f_X3_execute]) ?_
      exact b21 _ _ (ug (by omega)) w.2.1 w.2.2 h4 rfl rfl ok
  · have h := h16 12 (by decide) q
    have ok := o192 (by omega) (by omega)
    have ok' := ok
    obtain ⟨P, D, q1, q4, q5, q6, q7, q8, q9⟩ := ok'
    have b23 : ∀ (L' : LV) (n : Nat), uN (L'.1 100) = n → n < uN (ω.1 1902) → Gv g (ω.2.2.1 20 n) → SlW K (uN (ω.1 1901)) d r n → L'.1 4 = nI pc → L'.2.1 2 = L.2.1 2 → L'.2.2.1 1 = L.2.2.1 1 → Tm (fun k => f_X3_execute k 23 L' ω) Q := by
      intro L' n l1 ln gn sl l4 e1 e2
      refine Tm_suc (fun k => by rw [f_X3_execute]) ?_
      refine Tm_ite (fun _ => b25 _ n l1 ln gn sl l4 e1 e2 ok) (fun _ => ?_)
      refine Tm_suc (fun k => by rw [f_X3_execute]) ?_
      exact b25 _ n l1 ln gn sl l4 e1 e2 ok
    refine Tm_suc (fun k => by rw [f_X3_execute]) ?_
    refine Tm_ite (fun c1 => ?_) (fun c1 => ?_)
    · have z := q7 ((op_n ho (by decide)).1 c1)
      have w := lv _ z.1 z.2.1
      exact b23 _ _ (ul (by omega)) w.2.1 w.2.2 (Or.inr ⟨_, rfl, w.1, z.2.2.1, z.2.2.2⟩) h4 rfl rfl
    · have z := q8 (fun e => c1 (by show nI op = 192; rw [e]; rfl))
      have w := gl _ z
      refine Tm_suc (fun k => by rw [f_X3_execute]) ?_
      exact b23 _ _ (ug (by omega)) w.2.1 w.2.2 (Or.inl w.1) h4 rfl rfl
  · have oo : ∀ n, ¬ nI (op / 16) = nI n → ¬ op / 16 = n := fun n z e => z (by rw [e])
    have m0 := oo 0 n0
    have m1 := oo 1 n1
    have m2 := oo 2 n2
    have m3 := oo 3 n3
    have m4 := oo 4 n4
    have m5 := oo 5 n5
    have m6 := oo 6 n6
    have m7 := oo 7 n7
    have m8 := oo 8 n8
    have m9 := oo 9 n9
    have m10 := oo 10 n10
    have m11 := oo 11 n11
    have m12 := oo 12 n12
    exact b15 _ rfl rfl rfl (o144 (Or.inr (by omega)))
end CUG
end JnS422
section JnS423
/-! The class: its loop. -/
section CUH
variable {g g' g2 : Nat → Prop} {l l' l2 : List Nat} {t t' t2 : Nat} {σ σ' σ2 τ τ' φ : CS} {L : LV} {x y z i : Int32} {M M' U U' : Nat → Int32} {K K' K0 K2 K2' K3 K3' K4 K4' KB : Nat → Option Int32} {c : Ct} {B f0 u0 a T : Nat} {fs : List FrT} {u d : Nat} {r r' : List Nat} {pb nf nc sq rk : Nat}
/-- room is made between instructions: it runs as before -/
theorem RunT_rm {q : Nat} (h : RunT c K K4 f0 u0 τ q) {z : RS} (rm : RmO K K2 K3 K4 τ z) : RunT c K K4 f0 u0 z.2.1 q := by
  obtain ⟨-, -, f, ln, -⟩ := rm
  have e : ∀ j, ¬ (j = 1 ∨ j = 2403 ∨ j = 2404 ∨ j = 2405) → z.2.1.1 j = τ.1 j := f.1.1
  have tk : ∀ {fs : List FrT} {u d : Nat} {r : List Nat} {pb nf nc sq : Nat}, TyS c K K4 f0 u0 τ fs u d r pb nf nc sq → TyS c K K4 f0 u0 z.2.1 fs u d r pb nf nc sq := fun ty => TyS_k ty ⟨e 1901 (by decide), e 1815 (by decide), e 1811 (by decide), e 1908 (by decide)⟩ (by rw [e 1902 (by decide)]; exact ty.1) (fun _ _ => rfl) ty.2.2.1 ty.2.2.2.2.2.2.2.2
  obtain ⟨w, u, d, r, rk, fs, pb, nf, nc, sq, h⟩ := h
  refine ⟨by rw [e 1905 (by decide)]; exact w, u, d, r, rk, fs, pb, nf, nc, sq, ?_⟩
  rcases h with ⟨h1, h2, h3⟩ | ⟨dd, r0, h1, h2, h3, h4, h5⟩
  · exact Or.inl ⟨tk h1, by rw [e 1900 (by decide)]; exact h2, h3⟩
  · right
    have sp3 : 3 ≤ uN (τ.1 1902) := by
      have s := h2.1
      rw [h1.1, h1.2.1] at s
      obtain ⟨b, e', r', a1, a2, a3, a4, a5⟩ := s.2.2 (by unfold bsl; omega) (by omega)
      have p1 : pk (750000 + dd) = 1 := if_neg (by omega)
      have p3 : (750000 + dd) % 250000 = dd := by omega
      rw [p3] at a2
      have le := (SL_le _ _ _ a2).2
      omega
    have l1 := ln (uN (τ.1 1902) - 3) (by omega)
    have l3 := ln (uN (τ.1 1902) - 1) (by omega)
    have e3 := l3.2 h4.2
    refine ⟨dd, r0, h1, tk h2, by rw [e 1900 (by decide)]; exact h3, ?_, ?_⟩
    · rw [e 1902 (by decide), l1.1, e3]; exact h4
    · rw [e 1902 (by decide), e3]; exact h5
theorem c_disp2 (p : Pre c g l t K K2 K3 K4 B KB f0 u0 σ fs u d r pb nf nc sq) (by0 : BY (tcS c u0) σ) {pc d' : Nat} {r0 : List Nat} {b : Bool} (eb : sPr σ = some b) (hk : L.2.2.1 1 = sKd σ b) (h4 : L.1 4 = nI pc) (tD : tcD c pc = some (u + 100, d, r, rk)) (hop : tcC c pc &&& 255 = nI 113) (hp : pc + 1 ≤ tcN c) (hN : tcN c ≤ 36864) (hd : d = 0 ∧ r = (750000 + (d' + 2)) :: r0 ∧ 2 ≤ d' + 2 ∧ d' + 2 < 250000) (k5 : 5 ≤ kdC (σ.2.2.1 3) (σ.2.2.1 20 (uN (σ.1 1902) - 3))) (hr : 1000 ≤ rk ∧ rk ≤ 72 * (RK + 1)) (nS : NxS c (pc + 1) u (d' + 1) r0) {Q : RS → Prop} (cont : ∀ (L' : LV) (τ : CS) (n1 n2 : Nat), (IO c B KB f0 u0 σ (mu σ (qv nf sq (rk - min (uN (σ.2.2.1 20 (uN (σ.1 1902) - 1)) % 268435456) 1000))) ((0, 0), τ, (n1, n2)) ∨ Sd c B KB f0 u0 σ ((0, 0), τ, (n1, n2))) → BY (tcS c u0) τ → L'.2.1 2 = L.2.1 2 → L'.2.2.1 1 = L.2.2.1 1 → Tm (fun k => f_X3_execute k 19 L' τ) (fun q => Q (q.1, q.2.1, (n1 + q.2.2.1, n2 + q.2.2.2)))) : Tm (fun k => f_X3_execute k 5 L σ) Q := by
  have hpc1 : nI pc + 1 = nI (pc + 1) := u_eq.2 (by rw [u_inc (by rw [u_n (by omega)]; omega), u_n (by omega), u_n (by omega)])
  have p1 := Pre_i p (j := 1900) (Or.inr (Or.inl rfl)) (nI (pc + 1))
  have by1 : BY (tcS c u0) (uI σ 1900 (nI (pc + 1))) := BY_I (by decide) by0
  have md : Md σ (uI σ 1900 (nI (pc + 1))) := Md_i σ (by decide) _
  have cr := Ct_row p.1.2.2.1 eb
  have cr1 : (uI σ 1900 (nI (pc + 1))).2.2.1 (pR0 (sKd σ b)) = tcC c := cr.1
  have c4 : (nI pc).toNatClampNeg = pc := by rw [u_cl (by rw [u_n (by omega)]; omega), u_n (by omega)]
  have i4 : ¬ (nI pc < 0 ∨ sN (uI σ 1900 (nI (pc + 1))) (pR0 (sKd σ b)) ≤ (nI pc).toNatClampNeg) := u_in (by show uN (nI pc) < sN σ (pR0 (sKd σ b)); rw [cr.2.1, u_n (by omega)]; omega) (by show sN σ (pR0 (sKd σ b)) ≤ _; rw [cr.2.1]; omega)
  have nn : ∀ n, n < 256 → ¬ n = 7 → ¬ nI (113 / 16) = nI n := fun n hn ne e => ne ((op_n (by decide) hn).1 e).symm
  have io : ∀ {q : RS}, IO c B KB f0 u0 (uI σ 1900 (nI (pc + 1))) (mu (uI σ 1900 (nI (pc + 1))) (qv nf sq (rk - min (uN (σ.2.2.1 20 (uN (σ.1 1902) - 1)) % 268435456) 1000))) q → IO c B KB f0 u0 σ (mu σ (qv nf sq (rk - min (uN (σ.2.2.1 20 (uN (σ.1 1902) - 1)) % 268435456) 1000))) ((0, 0), q.2.1, (q.2.2.1, q.2.2.2)) := fun h => by
    rw [mu_e (σ := σ) (σ' := uI σ 1900 (nI (pc + 1))) (uI_o (by decide)) (uI_o (by decide)) _] at h
    exact IO_0 (IO_b md rfl h)
  refine Tm_suc (fun k => by rw [f_X3_execute]) ?_
  rw [hk, h4, hpc1]
  refine Tm_chk i4 (Tm_chk i4 ?_)
  rw [cr1, c4, hop, n_shr4 (by decide)]
  refine Tm_no (nn 0 (by decide) (by decide)) (Tm_no (nn 1 (by decide) (by decide)) (Tm_no (nn 2 (by decide) (by decide)) (Tm_no (nn 3 (by decide) (by decide)) (Tm_no (nn 4 (by decide) (by decide)) (Tm_no (nn 5 (by decide) (by decide)) (Tm_no (nn 6 (by decide) (by decide)) (Tm_yes rfl ?_)))))))
  refine Tm_suc (fun k => by rw [f_X3_execute]) ?_
  exact Tm_oxc (Tm_Bf (c_foldOn p1 hd k5 rfl h4 hp hN uI_s tD hr nS) (fun k => kb_f_X3_foldOn _ _ _ _ by1)) (fun q z => by rw [z.1.1]) (fun q z => cont _ _ _ _ (Or.inl (io z.1)) z.2 rfl rfl)
/-- all code is typed -/
def CkA (c : Ct) : Prop := tcN c ≤ 36864 ∧ ¬ tcK c 41 ∧ ∀ pc u d r rk, tcD c pc = some (u, d, r, rk) → pc + 1 ≤ tcN c ∧ rk ≤ 72 * (RK + 1) ∧ ∃ op, op < 256 ∧ tcC c pc &&& 255 = nI op ∧ (u < 42 → OKI c pc u d r rk op (tcC c pc >>> ((8 : Int32) &&& 31))) ∧ (100 ≤ u → op = 113 ∧ 1000 ≤ rk ∧ ∀ d' r0, r = (750000 + (d' + 2)) :: r0 → NxS c (pc + 1) (u - 100) (d' + 1) r0)
/-- how it stands between instructions, so much to go; or halted -/
def LpX (c : Ct) (B : Nat) (KB : Nat → Option Int32) (f0 u0 : Nat) (σ τ : CS) (n1 n2 m : Nat) : Prop := (n1 + PhC τ ≤ PhC σ ∧ n2 + PhS τ ≤ PhS σ) ∧ MFr σ τ ∧ (¬ tcS c u0 → EvF σ τ) ∧ BY (tcS c u0) τ ∧ ∃ (g : Nat → Prop) (l : List Nat) (t : Nat) (K K2 K3 K4 : Nat → Option Int32), MIn c g l t K K2 K3 K4 B KB τ ∧ ((τ.1 1812 = 0 ∧ ∃ q, RunT c K K4 f0 u0 τ q ∧ mu τ q < m) ∨ (¬ τ.1 1812 = 0 ∧ (Hz (tcS c u0) τ ∨ (tcS c u0 ∧ uN (τ.1 1905) ≤ 60000 ∧ RUN c K (uN (τ.1 1900)) (uN (τ.1 1901)) (uN (τ.1 1902)) (uN (τ.1 1908)) 0) ∨ (u0 = 41 ∧ f0 + 4 < uN (τ.1 1902) ∧ Gv g (τ.2.2.1 20 (uN (τ.1 1902) - 1))))))
theorem LpX_io {n1 n2 m a1 a2 : Nat} (h : LpX c B KB f0 u0 σ τ n1 n2 m) {m' : Nat} (hm : m' ≤ T) (hb : BY (tcS c u0) φ) (z : IO c B KB f0 u0 τ m' ((0, 0), φ, (a1, a2)) ∨ Sd c B KB f0 u0 τ ((0, 0), φ, (a1, a2))) : LpX c B KB f0 u0 σ φ (n1 + a1) (n2 + a2) T := by
  obtain ⟨⟨c1, c2⟩, f, ev, by0, -⟩ := h
  rcases z with ⟨z1, z2, z3, z4, g, l, t, K, K2, K3, K4, z5, z6, z7⟩ | ⟨z1, z2, z3, z4, g, l, t, K, K2, K3, K4, z5, z6, z7⟩
  · have d1 : a1 + PhC φ ≤ PhC τ := z2.1
    have d2 : a2 + PhS φ ≤ PhS τ := z2.2
    refine ⟨⟨by omega, by omega⟩, MFr_t f z3, fun n j j1 j2 j3 => (z4 n j j1 j2 j3).trans (ev n j j1 j2 j3), hb, g, l, t, K, K2, K3, K4, z5, ?_⟩
    by_cases e : φ.1 1812 = 0
    · obtain ⟨q, q1, q2⟩ := z6 e
      have q3 : mu φ q < m' := q2
      exact Or.inl ⟨e, q, q1, by omega⟩
    · exact Or.inr ⟨e, Or.inl (z7 e)⟩
  · have d1 : a1 + PhC φ ≤ PhC τ := z2.1
    have d2 : a2 + PhS φ ≤ PhS τ := z2.2
    have z6' : φ.1 1812 = 1 := z6
    exact ⟨⟨by omega, by omega⟩, MFr_t f z3, fun n j j1 j2 j3 => (z4 n j j1 j2 j3).trans (ev n j j1 j2 j3), hb, g, l, t, K, K2, K3, K4, z5, Or.inr ⟨by rw [z6']; decide, Or.inr z7⟩⟩
/-- behind execute -/
def ExZ (c : Ct) (B : Nat) (KB : Nat → Option Int32) (f0 u0 : Nat) (σ : CS) (z : RS) : Prop := z.1 = (0, 0) ∧ LpX c B KB f0 u0 σ z.2.1 z.2.2.1 z.2.2.2 0
theorem tu_lt {x : Int64} (h : x.toInt < 4611686018427387904) : ¬ 0 ≤ nbCmp x 4611686018427387904 := by
  have e : (4611686018427387904 : Int64).toInt = 4611686018427387904 := rfl
  unfold nbCmp
  rw [if_neg (by rw [Int64.lt_iff_toInt_lt, e]; omega), if_neg (by intro q; rw [q, e] at h; omega)]
  decide
theorem tu_in {x : Int64} (h0 : 0 ≤ x.toInt) (h : x.toInt < 4611686018427387904) : (x + 1).toInt = x.toInt + 1 := by
  have e : (1 : Int64).toInt = 1 := rfl
  rw [Int64.toInt_add, e]
  exact Int.bmod_eq_of_le (by omega) (by omega)
theorem c_loop (ck : CkA c) (hu : ¬ tcK c u0) (hz : tcS c u0 → f0 = 0 ∧ u0 = 0) (bo : (B ≤ f0 + 3 ∧ ∀ j, j < 4 + tcF c 0 → KB j = KH j) ∨ ((∀ j, KB j = KH j) ∧ B ≤ f0 + 4 + tcF c u0)) {b : Bool} (eb : sPr σ = some b) : ∀ (m : Nat) (L' : LV) (τ : CS) (n1 n2 : Nat), LpX c B KB f0 u0 σ τ n1 n2 m → 0 ≤ (L'.2.1 2).toInt → (L'.2.1 2).toInt + m ≤ 4611686018427387904 → L'.2.2.1 1 = sKd σ b → Tm (fun k => f_X3_execute k 1 L' τ) (fun q => ExZ c B KB f0 u0 σ (q.1, q.2.1, (n1 + q.2.2.1, n2 + q.2.2.2))) := by
  have ha : ∀ (m : Nat) (L' : LV) (τ : CS) (n1 n2 : Nat), LpX c B KB f0 u0 σ τ n1 n2 m → ¬ τ.1 1812 = 0 → Tm (fun k => f_X3_execute k 2 L' τ) (fun q => ExZ c B KB f0 u0 σ (q.1, q.2.1, (n1 + q.2.2.1, n2 + q.2.2.2))) := by
    intro m L' τ n1 n2 h e
    refine Tm_suc (fun k => by rw [f_X3_execute]) ?_
    refine Tm_some ⟨rfl, ?_⟩
    obtain ⟨h1, h2, h3, h4, g, l, t, K, K2, K3, K4, h5, h6⟩ := h
    exact ⟨h1, h2, h3, h4, g, l, t, K, K2, K3, K4, h5, Or.inr (h6.elim (fun y => absurd y.1 e) id)⟩
  intro m
  induction m with
  | zero =>
    intro L' τ n1 n2 h t0 t1 hk
    have e : ¬ τ.1 1812 = 0 := by
      obtain ⟨h1, h2, h3, h4, g, l, t, K, K2, K3, K4, h5, h6⟩ := h
      rcases h6 with ⟨_, q, _, y⟩ | y
      · exact absurd y (Nat.not_lt_zero _)
      · exact y.1
    refine Tm_suc (fun k => by rw [f_X3_execute]) ?_
    exact Tm_ite (fun _ => ha _ _ _ _ _ h e) (fun _ => Tm_no e (ha _ _ _ _ _ h e))
  | succ m ih =>
    intro L' τ n1 n2 h t0 t1 hk
    by_cases e : ¬ τ.1 1812 = 0
    · refine Tm_suc (fun k => by rw [f_X3_execute]) ?_
      exact Tm_ite (fun _ => ha _ _ _ _ _ h e) (fun _ => Tm_no e (ha _ _ _ _ _ h e))
    have e : τ.1 1812 = 0 := Classical.byContradiction e
    have tl : (L'.2.1 2).toInt < 4611686018427387904 := by omega
    -- behind the room
    have b3 : ∀ (L2 : LV) (ρ : CS) (m1 m2 : Nat), LpX c B KB f0 u0 σ ρ m1 m2 (m + 1) → ρ.1 1812 = 0 → L2.2.1 2 = L'.2.1 2 → L2.2.2.1 1 = L'.2.2.1 1 → Tm (fun k => f_X3_execute k 3 L2 ρ) (fun q => ExZ c B KB f0 u0 σ (q.1, q.2.1, (m1 + q.2.2.1, m2 + q.2.2.2))) := by
      intro L2 ρ m1 m2 h0 er l2 l1
      have h0' := h0
      obtain ⟨h1, h2, h3, h4, g, l, t, K, K2, K3, K4, mi, h6⟩ := h0'
      obtain ⟨_, q, rt, qm⟩ := h6.resolve_right (fun y => y.1 er)
      have ebr : sPr ρ = some b := by
        show ρ.2.2.2.2.2.1.2.2.1 = _
        rw [h2.2.2.2.2]; exact eb
      have hkr : L2.2.2.1 1 = sKd ρ b := by
        rw [l1, hk]
        show σ.2.2.2.2.2.1.2.2.2.2 b = ρ.2.2.2.2.2.1.2.2.2.2 b
        rw [h2.2.2.2.2]
      have cr := Ct_row mi.2.2.1 ebr
      have cont : ∀ (m' : Nat), m' ≤ m → ∀ (L3 : LV) (φ : CS) (a1 a2 : Nat), (IO c B KB f0 u0 ρ m' ((0, 0), φ, (a1, a2)) ∨ Sd c B KB f0 u0 ρ ((0, 0), φ, (a1, a2))) → BY (tcS c u0) φ → L3.2.1 2 = L2.2.1 2 → L3.2.2.1 1 = L2.2.2.1 1 → Tm (fun k => f_X3_execute k 19 L3 φ) (fun q => (fun z : RS => ExZ c B KB f0 u0 σ (z.1, z.2.1, (m1 + z.2.2.1, m2 + z.2.2.2))) (q.1, q.2.1, (a1 + q.2.2.1, a2 + q.2.2.2))) := by
        intro m' hm L3 φ a1 a2 z hb e1 e2
        have lx := LpX_io h0 hm hb z
        refine Tm_suc (fun k => by rw [f_X3_execute]) ?_
        refine Tm_mono (ih _ φ (m1 + a1) (m2 + a2) lx ?_ ?_ ?_) (fun q y => ?_)
        · show 0 ≤ (L3.2.1 2 + 1).toInt
          rw [e1, l2, tu_in t0 tl]; omega
        · show (L3.2.1 2 + 1).toInt + m ≤ _
          rw [e1, l2, tu_in t0 tl]; omega
        · show L3.2.2.1 1 = _
          rw [e2, l1]; exact hk
        · show ExZ c B KB f0 u0 σ (q.1, q.2.1, (m1 + (a1 + q.2.2.1), m2 + (a2 + q.2.2.2)))
          rw [← Nat.add_assoc, ← Nat.add_assoc]; exact y
      obtain ⟨w5, u, d, r, rk, fs, pb, nf, nc, sq, rr⟩ := rt
      have tD : ∃ u', tcD c (uN (ρ.1 1900)) = some (u', d, r, rk) := rr.elim (fun y => ⟨_, y.2.1⟩) (fun ⟨dd, r0, y⟩ => ⟨_, y.2.2.1⟩)
      obtain ⟨u', tD⟩ := tD
      have ckp := ck.2.2 _ _ _ _ _ tD
      have hN := ck.1
      have h19 : ρ.1 1900 = nI (uN (ρ.1 1900)) := u_of _
      have ih1 : ¬ ρ.1 1900 < 0 := by rw [u_neg]; have := ckp.1; omega
      have ih2 : ρ.1 1900 < nI (sN ρ (pR0 (L2.2.2.1 1))) := by
        rw [hkr, cr.2.1, u_ltn (by have := ckp.1; omega) (by rw [u_n (by omega)]; omega), u_n (by omega)]
        exact ckp.1
      refine Tm_suc (fun k => by rw [f_X3_execute]) ?_
      refine Tm_no ih1 (Tm_yes ih2 ?_)
      rcases rr with ⟨ty, tD', qe⟩ | ⟨dd, r0, y1, ty, tD', y4, qe⟩
      · have pp : Pre c g l t K K2 K3 K4 B KB f0 u0 ρ fs u d r pb nf nc sq := ⟨mi, ty, w5, er, bo⟩
        have c2 := ck.2.2 _ _ _ _ _ tD'
        obtain ⟨k1, k2, op, k3, k4, k5, k6⟩ := c2
        have qm' : mu ρ (qv nf sq rk) ≤ m := by
          have : mu ρ q < m + 1 := qm
          rw [qe] at this
          exact Nat.le_of_lt_succ this
        exact c_disp (L := lI L2 4 (ρ.1 1900)) (Q := fun z : RS => ExZ c B KB f0 u0 σ (z.1, z.2.1, (m1 + z.2.2.1, m2 + z.2.2.2))) pp h4 ebr hkr h19 tD' k4 k3 rfl k1 hN hu ck.2.1 hz (k5 ty.2.2.2.2.2.2.2.1) (cont _ qm')
      · have pp : Pre c g l t K K2 K3 K4 B KB f0 u0 ρ fs u d r pb nf nc sq := ⟨mi, ty, w5, er, bo⟩
        have c2 := ck.2.2 _ _ _ _ _ tD'
        obtain ⟨k1, k2, op, k3, k4, k5, k6⟩ := c2
        obtain ⟨j1, j2, j3⟩ := k6 (Nat.le_add_left _ _)
        obtain ⟨d', de⟩ : ∃ d', dd = d' + 2 := ⟨dd - 2, by omega⟩
        subst de
        have qm' : mu ρ (qv nf sq (rk - min (uN (ρ.2.2.1 20 (uN (ρ.1 1902) - 1)) % 268435456) 1000)) ≤ m := by
          have : mu ρ q < m + 1 := qm
          rw [qe] at this
          exact Nat.le_of_lt_succ this
        have nS := j3 d' r0 y1.2.1
        rw [Nat.add_sub_cancel] at nS
        exact c_disp2 (L := lI L2 4 (ρ.1 1900)) (Q := fun z : RS => ExZ c B KB f0 u0 σ (z.1, z.2.1, (m1 + z.2.2.1, m2 + z.2.2.2))) pp h4 ebr hkr h19 tD' (by rw [k4, j1]) k1 hN y1 y4.1 ⟨j2, k2⟩ nS (cont _ qm')
    have hby : BY (tcS c u0) τ := h.2.2.2.1
    refine Tm_suc (fun k => by rw [f_X3_execute]) ?_
    refine Tm_no (tu_lt tl) (Tm_yes e ?_)
    refine Tm_op c_isTight (fun q z => ?_)
    rw [z.1]
    refine Tm_ite (fun _ => b3 _ _ _ _ h e rfl rfl) (fun _ => ?_)
    have h' := h
    obtain ⟨⟨c1, c2⟩, h2, h3, h4, g, l, t, K, K2, K3, K4, mi, h6⟩ := h'
    obtain ⟨_, qq, rt, qm⟩ := h6.resolve_right (fun y => y.1 e)
    refine Tm_oxk (Q := ExZ c B KB f0 u0 σ) (Tm_Bf (c_makeRoom mi.1 mi.2.1) (fun k => kb_f_X3_makeRoom _ _ _ _ hby)) (fun q z => by rw [z.1.1]) (fun q z => ?_)
    obtain ⟨rm, hb⟩ := z
    obtain ⟨g', l', t', mr⟩ := MIn_rm mi rm
    have f := rm.2.2.1
    have ee : ∀ j, ¬ (j = 1 ∨ j = 2403 ∨ j = 2404 ∨ j = 2405) → q.2.1.1 j = τ.1 j := f.1.1
    have d1 := rm.2.1.1
    have d2 := rm.2.1.2
    have er : q.2.1.1 1812 = 0 := (ee 1812 (by decide)).trans e
    refine b3 _ _ _ _ ⟨⟨by omega, by omega⟩, MFr_t h2 (MFr_R f), fun n j j1 j2 j3 => (ee j (by omega)).trans (h3 n j j1 j2 j3), hb, g', l', t', K, K2, K3, K4, mr, Or.inl ⟨er, qq, RunT_rm rt rm, ?_⟩⟩ er rfl rfl
    rw [mu_e (ee 1905 (by decide)) (ee 1814 (by decide))]; exact qm
end CUH
end JnS423
section JnS424
/-! The class: execute. -/
section CUI
variable {g g' g2 : Nat → Prop} {l l' l2 : List Nat} {t t' t2 : Nat} {σ σ' σ2 τ τ' φ : CS} {L : LV} {x y z i : Int32} {M M' U U' : Nat → Int32} {K K' K0 K2 K2' K3 K3' K4 K4' KB : Nat → Option Int32} {c : Ct} {B f0 u0 a T : Nat} {fs : List FrT} {u d : Nat} {r r' : List Nat} {pb nf nc sq rk : Nat}
theorem mu_lt {q : Nat} (hl : uN (σ.1 1814) ≤ 10240000) (hq : q < QK) : mu σ q < 4611686018427387904 := by
  unfold mu
  have e1 := Nat.mul_le_mul_right (60002 * QK) hl
  have e2 : (60000 - uN (σ.1 1905)) * QK ≤ 60000 * QK := Nat.mul_le_mul_right QK (by omega)
  have e3 : QK = 6000150 := rfl
  rw [e3] at e1 e2 hq ⊢
  omega
/-- a run that stands at a statement runs on -/
theorem RunT_of (h : RUN c K (uN (σ.1 1900)) (uN (σ.1 1901)) (uN (σ.1 1902)) (uN (σ.1 1908)) 0) (w : uN (σ.1 1905) ≤ 60000) (e15 : σ.1 1815 = 0) (e11 : σ.1 1811 = 0) (hl : uN (σ.1 1814) ≤ 10240000) : ∃ q, RunT c K K4 0 0 σ q ∧ mu σ q < 4611686018427387904 := by
  obtain ⟨u, d, rk, sq, fs, ms, ⟨tD, hms⟩, r1, sl, d2, fb, cs, u4, fc, n5, p2, sp4⟩ := h
  have ty : TyS c K K4 0 0 σ fs u 0 ((bsl + d) :: ms) 0 0 (uN (σ.1 1908)) sq := ⟨sl, FC_k fc (fun _ _ => rfl) (fun p hp => absurd hp (Nat.not_lt_zero p)), by rw [bt_0]; exact fb, ⟨by rw [e15]; rfl, by decide⟩, by rw [e11]; rfl, fun _ => rfl, n5, by omega, PaM_0 hms⟩
  refine ⟨qv 0 sq rk, ⟨w, u, 0, (bsl + d) :: ms, rk, fs, 0, 0, _, sq, Or.inl ⟨ty, tD, rfl⟩⟩, ?_⟩
  exact mu_lt hl (qv_lt (rk := rk) ty (by omega))
theorem c_beginWork : Tm (fun k => y_X3_beginWork k 0 L σ) (fun q => q.2 = uI (uI (uI (uI (uI σ 1812 0) 1813 0) 1815 0) 1816 0) 1811 0) := by
  refine Tm_suc (fun k => by rw [y_X3_beginWork]) ?_
  refine Tm_suc (fun k => by rw [y_X3_beginWork]) ?_
  exact Tm_some rfl
theorem c_execute (mi : MIn c g l t K K2 K3 K4 B KB σ) (by0 : BY False σ) (h7 : tcS c u0 → σ.1 1907 = 0) (ck : CkA c) (hu : ¬ tcK c u0) (hz : tcS c u0 → f0 = 0 ∧ u0 = 0) (bo : (B ≤ f0 + 3 ∧ ∀ j, j < 4 + tcF c 0 → KB j = KH j) ∨ ((∀ j, KB j = KH j) ∧ B ≤ f0 + 4 + tcF c u0)) (rt : ∀ τ : CS, (∀ j, ¬ (j = 1811 ∨ j = 1812 ∨ j = 1813 ∨ j = 1815 ∨ j = 1816) → τ.1 j = σ.1 j) → τ.1 1815 = 0 → τ.1 1811 = 0 → ∃ q, RunT c K K4 f0 u0 τ q ∧ mu τ q < 4611686018427387904) : Tm (fun k => f_X3_execute k 0 L σ) (ExZ c B KB f0 u0 σ) := by
  obtain ⟨b, eb, cb⟩ := mi.2.2.1
  refine Tm_suc (fun k => by rw [f_X3_execute]) ?_
  refine Tm_op c_beginWork (fun q z => ?_)
  rw [z]
  generalize hτ : uI (uI (uI (uI (uI σ 1812 0) 1813 0) 1815 0) 1816 0) 1811 0 = τ
  have o : ∀ j, ¬ (j = 1811 ∨ j = 1812 ∨ j = 1813 ∨ j = 1815 ∨ j = 1816) → τ.1 j = σ.1 j := fun j hj => by rw [← hτ, uI_o (by omega), uI_o (by omega), uI_o (by omega), uI_o (by omega), uI_o (by omega)]
  have oe : τ.2 = σ.2 := by rw [← hτ]; rfl
  have o12 : τ.1 1812 = 0 := by rw [← hτ, uI_o (by decide), uI_o (by decide), uI_o (by decide), uI_o (by decide), uI_s]
  have o13 : τ.1 1813 = 0 := by rw [← hτ, uI_o (by decide), uI_o (by decide), uI_o (by decide), uI_s]
  have o15 : τ.1 1815 = 0 := by rw [← hτ, uI_o (by decide), uI_o (by decide), uI_s]
  have o11 : τ.1 1811 = 0 := by rw [← hτ, uI_s]
  have mt := MIn_fl (σ' := τ) mi oe (fun j hj => o j (by omega)) (by rw [o 1902 (by decide)]; exact mi.2.2.2.2.2.2.1.2) (by rw [o 1902 (by decide)]; exact Nat.le_refl _)
  have ebt : sPr τ = some b := by
    show τ.2.2.2.2.2.1.2.2.1 = _
    rw [oe]; exact eb
  refine Tm_oP ebt ?_
  have byt : BY (tcS c u0) τ := ⟨by rw [oe]; exact by0.1, by rw [oe]; exact by0.2.1, by rw [oe]; exact by0.2.2.1, by show τ.2.2.2.2.1 22 ≤ _; rw [oe]; exact by0.2.2.2.1, by show τ.2.2.2.2.1 66 ≤ _; rw [oe]; exact by0.2.2.2.2.1, fun _ => ⟨o13, fun cs => by rw [o 1907 (by decide)]; exact h7 cs⟩⟩
  have ph := Ph_s (σ := σ) (σ' := τ) (by rw [oe])
  have lx : LpX c B KB f0 u0 σ τ 0 0 4611686018427387904 := ⟨⟨by omega, by omega⟩, Md_M mt.2, fun _ => Md_E mt.2, byt, g, l, t, K, K2, K3, K4, mt.1, Or.inl ⟨o12, rt τ o o15 o11⟩⟩
  have z0 : (0 : Int64).toInt = 0 := rfl
  refine Tm_mono (c_loop ck hu hz bo (σ := σ) eb 4611686018427387904 _ τ 0 0 lx ?_ ?_ ?_) (fun q z => ?_)
  · show 0 ≤ (0 : Int64).toInt
    rw [z0]; exact Int.le_refl _
  · show (0 : Int64).toInt + ((4611686018427387904 : Nat) : Int) ≤ 4611686018427387904
    rw [z0]; omega
  · show τ.2.2.2.2.2.1.2.2.2.2 b = σ.2.2.2.2.2.1.2.2.2.2 b
    rw [oe]
  · rw [Nat.zero_add, Nat.zero_add] at z
    exact z
end CUI
end JnS424
section JnS425
/-! The class: advance. -/
section CUJ
variable {g g' g2 : Nat → Prop} {l l' l2 : List Nat} {t t' t2 : Nat} {σ σ' σ2 τ τ' φ : CS} {L : LV} {x y z i : Int32} {M M' U U' : Nat → Int32} {K K' K0 K2 K2' K3 K3' K4 K4' KB : Nat → Option Int32} {c : Ct} {B f0 u0 a T : Nat} {fs : List FrT} {u d : Nat} {r r' : List Nat} {pb nf nc sq rk : Nat}
theorem c_fill23 : Tm (fun k => y_J7_fill_53178__a23 k 0 L σ) (fun r => ∃ f, r.2 = uF σ 23 f ∧ ∀ j, j < 3780 → f j = L.1 1) := by
  have e3 : uN (Int32.ofNat 3780) = 3780 := rfl
  have b1 : ∀ (m : Nat) (L' : LV) (f : Nat → Int32), L'.1 1 = L.1 1 → L'.1 3 = Int32.ofNat 3780 → uN (L'.1 2) + m = 3780 → (∀ j, j < uN (L'.1 2) → f j = L.1 1) → Tm (fun k => y_J7_fill_53178__a23 k 1 L' (uF σ 23 f)) (fun r => ∃ f, r.2 = uF σ 23 f ∧ ∀ j, j < 3780 → f j = L.1 1) := by
    intro m
    induction m with
    | zero =>
      intro L' f l1 l3 hm hf
      refine Tm_suc (fun k => by rw [y_J7_fill_53178__a23]) ?_
      refine Tm_yes (by rw [l3, u_le (by decide) (by omega), e3]; omega) ?_
      refine Tm_suc (fun k => by rw [y_J7_fill_53178__a23]) ?_
      exact Tm_some ⟨f, rfl, fun j hj => hf j (by omega)⟩
    | succ m ih =>
      intro L' f l1 l3 hm hf
      have c2 : (L'.1 2).toNatClampNeg = uN (L'.1 2) := u_cl (by omega)
      have e2 : uN (L'.1 2 + 1) = uN (L'.1 2) + 1 := u_inc (by omega)
      refine Tm_suc (fun k => by rw [y_J7_fill_53178__a23]) ?_
      refine Tm_no (by rw [l3, u_le (by decide) (by omega), e3]; omega) ?_
      refine Tm_chk (u_in (by omega) (by decide)) ?_
      have eq : uA (uF σ 23 f) 23 (L'.1 2).toNatClampNeg (L'.1 1) = uF σ 23 (upd f (uN (L'.1 2)) (L.1 1)) := by
        rw [c2, l1]
        show uF (uF σ 23 f) 23 (upd ((uF σ 23 f).2.2.1 23) (uN (L'.1 2)) (L.1 1)) = _
        rw [uF_s]
        show (σ.1, σ.2.1, updG (updG σ.2.2.1 23 f) 23 _, σ.2.2.2) = (σ.1, σ.2.1, updG σ.2.2.1 23 _, σ.2.2.2)
        rw [updG_updG]
      rw [eq]
      refine ih _ _ l1 l3 ?_ (fun j hj => ?_)
      · show uN (L'.1 2 + 1) + m = 3780
        omega
      · have hj' : j < uN (L'.1 2 + 1) := hj
        by_cases q : j = uN (L'.1 2)
        · rw [q, upd_same]
        · rw [upd_other q]
          exact hf j (by omega)
  have eq0 : σ = uF σ 23 (σ.2.2.1 23) := by
    show σ = (σ.1, σ.2.1, updG σ.2.2.1 23 (σ.2.2.1 23), σ.2.2.2)
    have e : updG σ.2.2.1 23 (σ.2.2.1 23) = σ.2.2.1 := by
      funext k
      by_cases q : k = 23
      · rw [q, updG_same]
      · rw [updG_other q]
    rw [e]
  refine Tm_suc (fun k => by rw [y_J7_fill_53178__a23]) ?_
  rw [show (fun k => y_J7_fill_53178__a23 k 1 (lI (lI L 2 0) 3 (Int32.ofNat 3780)) σ) = (fun k => y_J7_fill_53178__a23 k 1 (lI (lI L 2 0) 3 (Int32.ofNat 3780)) (uF σ 23 (σ.2.2.1 23))) by rw [← eq0]]
  exact b1 3780 _ _ rfl rfl rfl (fun j hj => absurd hj (Nat.not_lt_zero j))
/-- where the near one is wanted: nothing hangs on it -/
theorem SVK_8 (h : SVK c K σ) (x : Int32) : SVK c K (uI σ 2408 x) := by
  have o : ∀ j, ¬ j = 2408 → (uI σ 2408 x).1 j = σ.1 j := fun j hj => uI_o hj
  obtain ⟨⟨h1, h2, h2'⟩, h3, h4, h5, h6⟩ := h
  have ef : ∀ i j, i < 9 → (uI σ 2408 x).1 (100 * (28 + sPi σ i) + j) = σ.1 (100 * (28 + sPi σ i) + j) := fun i j hi => o _ (by omega)
  refine ⟨⟨by rw [o 2404 (by decide), o 2403 (by decide)]; exact h1, fun i hi => ?_, fun hn => ?_⟩, h3, h4, fun i hi => ?_, fun hn => ?_⟩
  · rw [o 2404 (by decide)] at hi
    have z := h2 i hi
    show uN ((uI σ 2408 x).1 (100 * (28 + sPi σ i) + 3)) < _ ∧ uN ((uI σ 2408 x).1 (100 * (28 + sPi σ i) + 3)) ≤ _ ∧ _
    rw [ef i 3 (by omega), o 2407 (by decide)]
    refine ⟨z.1, z.2.1, fun k k1 k2 => ?_⟩
    rw [o 2404 (by decide)] at k2
    show uN ((uI σ 2408 x).1 (100 * (28 + sPi σ i) + 3)) < uN ((uI σ 2408 x).1 (100 * (28 + sPi σ k) + 3))
    rw [ef i 3 (by omega), ef k 3 (by omega)]
    exact z.2.2 k k1 k2
  · rw [o 2405 (by decide)] at hn
    show uN ((uI σ 2408 x).1 (100 * (28 + sPi σ 8) + 3)) ≤ _
    rw [ef 8 3 (by decide)]
    exact h2' hn
  · rw [o 2404 (by decide)] at hi
    have z := h5 i hi
    refine ⟨SvR_m z.1 (fun j _ => ef i j (by omega)) rfl rfl (fun _ _ => rfl), ?_, fun k k1 k2 => ?_⟩
    · show uN (σ.2.2.1 27 i) + uN ((uI σ 2408 x).1 (100 * (28 + sPi σ i) + 2)) + uN ((uI σ 2408 x).1 (100 * (28 + sPi σ i) + 13)) ≤ uN ((uI σ 2408 x).1 2403)
      rw [ef i 2 (by omega), ef i 13 (by omega), o 2403 (by decide)]
      exact z.2.1
    · rw [o 2404 (by decide)] at k2
      show uN (σ.2.2.1 27 i) + uN ((uI σ 2408 x).1 (100 * (28 + sPi σ i) + 2)) + uN ((uI σ 2408 x).1 (100 * (28 + sPi σ i) + 13)) ≤ uN (σ.2.2.1 27 k)
      rw [ef i 2 (by omega), ef i 13 (by omega)]
      exact z.2.2 k k1 k2
  · rw [o 2405 (by decide)] at hn
    have z := h6 hn
    refine ⟨?_, ?_, ?_⟩
    · rw [o 2403 (by decide)]
      exact SvR_m z.1 (fun j _ => ef 8 j (by decide)) rfl rfl (fun _ _ => rfl)
    · rw [o 2403 (by decide)]; exact z.2.1
    · show uN ((uI σ 2408 x).1 2403) + uN ((uI σ 2408 x).1 (100 * (28 + sPi σ 8) + 2)) + uN ((uI σ 2408 x).1 (100 * (28 + sPi σ 8) + 13)) ≤ 20000
      rw [ef 8 2 (by decide), ef 8 13 (by decide), o 2403 (by decide)]
      exact z.2.2
theorem MIn_28 (mi : MIn c g l t K K2 K3 K4 B KB σ) (x : Int32) : MIn c g l t K K2 K3 K4 B KB (uI σ 2408 x) := by
  obtain ⟨v1, v2, v3, v4, v5, v6, v7, v8⟩ := mi.2.1
  have us : usI (uI σ 2408 x) = usI σ := by
    unfold usI
    show (if (uI σ 2408 x).1 2405 = 0 then (uI σ 2408 x).1 2403 else (uI σ 2408 x).1 2403 + (uI σ 2408 x).1 (100 * (28 + sPi σ 8) + 2) + (uI σ 2408 x).1 (100 * (28 + sPi σ 8) + 13)) = _
    rw [uI_o (i := 2405) (by decide), uI_o (i := 2403) (by decide), uI_o (i := 100 * (28 + sPi σ 8) + 2) (by omega), uI_o (i := 100 * (28 + sPi σ 8) + 13) (by omega)]
  exact MIn_9 mi (SvF_i σ (by decide) x) (SVK_8 mi.2.2.2.2.1 x) ⟨by rw [us]; exact v6, v7, by rw [us]; exact v8⟩
/-- between the house's calls, while there is a run -/
def Mst (c : Ct) (σ : CS) : Prop := BY False σ ∧ uN (σ.1 1902) ≤ 10404 ∧ ∃ (g : Nat → Prop) (l : List Nat) (t : Nat) (K K2 K3 K4 : Nat → Option Int32), MIn c g l t K K2 K3 K4 (4 + tcF c 0) KH σ ∧ (σ.1 1907 = 0 → uN (σ.1 1905) ≤ 60000 ∧ RUN c K (uN (σ.1 1900)) (uN (σ.1 1901)) (uN (σ.1 1902)) (uN (σ.1 1908)) 0)
theorem c_expect : Tm (fun k => y_X9_expect k 0 L σ) (fun q => ∃ x, q.2 = uI σ 2408 x) := by
  refine Tm_suc (fun k => by rw [y_X9_expect]) ?_
  refine Tm_ite (fun _ => ?_) (fun _ => ?_)
  · refine Tm_suc (fun k => by rw [y_X9_expect]) ?_
    refine Tm_suc (fun k => by rw [y_X9_expect]) ?_
    exact Tm_some ⟨_, rfl⟩
  · refine Tm_suc (fun k => by rw [y_X9_expect]) ?_
    exact Tm_some ⟨_, rfl⟩
theorem c_advance (ms : Mst c σ) (ck : CkA c) (k0 : tcS c 0) (f0' : tcF c 0 ≤ 1000) (hn : uN (σ.1 1903) + uN (L.1 1) ≤ 10240000) : Tm (fun k => f_X3_advance k 0 L σ) (fun q => q.1 = (0, 0) ∧ CoP σ q ∧ MFr σ q.2.1 ∧ Mst c q.2.1) := by
  have ms0 := ms
  obtain ⟨by0, sp0, g, l, t, K, K2, K3, K4, mi, rn⟩ := ms
  obtain ⟨b, eb, cb⟩ := mi.2.2.1
  have b1 : ∀ (L' : LV), Tm (fun k => f_X3_advance k 1 L' σ) (fun q => q.1 = (0, 0) ∧ CoP σ q ∧ MFr σ q.2.1 ∧ Mst c q.2.1) := by
    intro L'
    refine Tm_suc (fun k => by rw [f_X3_advance]) ?_
    exact Tm_some ⟨rfl, CoP_0 rfl, Md_M (Md_r σ), ms0⟩
  refine Tm_suc (fun k => by rw [f_X3_advance]) ?_
  rw [eb]
  show Tm (fun k => if σ.1 1907 = 0 then f_X3_advance k 2 L σ else f_X3_advance k 1 L σ) _
  refine Tm_ite (fun c7 => ?_) (fun _ => b1 _)
  obtain ⟨w5, run⟩ := rn c7
  have mb := mi.2.2.2.2.2.2.1.2
  have mt := MIn_fw (σ' := uI σ 1814 (L.1 1)) mi rfl (fun j hj => uI_o (by omega)) (by rw [uI_o (by decide)]; exact mb) (by rw [uI_o (by decide)]; exact Nat.le_refl _) (by rw [uI_o (by decide), uI_s]; exact hn)
  refine Tm_suc (fun k => by rw [f_X3_advance]) ?_
  refine Tm_op (Tm_By (c_expect (σ := uI σ 1814 (L.1 1))) (fun k => kb_y_X9_expect _ _ _ _ (BY_I (by decide) by0))) (fun q z => ?_)
  obtain ⟨⟨x, zx⟩, byx⟩ := z
  have mx := MIn_28 mt.1 x
  rw [← zx] at mx
  have o : ∀ j, ¬ (j = 1814 ∨ j = 2408) → q.2.1 j = σ.1 j := fun j hj => by rw [zx, uI_o (by omega), uI_o (by omega)]
  have o4 : q.2.1 1814 = L.1 1 := by rw [zx, uI_o (by decide), uI_s]
  have fx : MFr σ q.2 := by rw [zx]; exact MFr_t (Mw_M mt.2) (SvF_M (SvF_i _ (by decide) x))
  have phx := Ph_s (σ := σ) (σ' := q.2) (by rw [zx]; rfl)
  have ex := c_execute (f0 := 0) (u0 := 0) (L := lZ) mx byx (fun _ => by rw [o 1907 (by decide)]; exact c7) ck k0.1 (fun _ => ⟨rfl, rfl⟩) (Or.inr ⟨fun _ => rfl, by omega⟩) (fun τ e e15 e11 => RunT_of (by rw [e 1900 (by decide), e 1901 (by decide), e 1902 (by decide), e 1908 (by decide), o 1900 (by decide), o 1901 (by decide), o 1902 (by decide), o 1908 (by decide)]; exact run) (by rw [e 1905 (by decide), o 1905 (by decide)]; exact w5) e15 e11 (by rw [e 1814 (by decide), o4]; omega))
  refine Tm_oxc ex (fun r s => by rw [s.1]) (fun q3 s => ?_)
  obtain ⟨s1, ⟨c1, c2⟩, s2, s3, s4, g', l', t', K', K2', K3', K4', m', s6⟩ := s
  have s7 := (s6.resolve_left (fun y => by obtain ⟨_, _, _, y⟩ := y; exact absurd y (Nat.not_lt_zero _))).2
  refine Tm_ite (fun c13 => ?_) (fun c13 => ?_)
  · refine Tm_suc (fun k => by rw [f_X3_advance]) ?_
    refine Tm_some ⟨rfl, ⟨by show q3.2.2.1 + 0 + PhC q3.2.1 ≤ _; omega, by show q3.2.2.2 + 0 + PhS q3.2.1 ≤ _; omega⟩, MFr_t fx s2, BY_f s4, ?_, g', l', t', K', K2', K3', K4', m', fun c7' => ?_⟩
    · show uN (q3.2.1.1 1902) ≤ 10404
      rcases s7 with y | y | y
      · rcases y with y | y
        · exact absurd c13 y
        · exact y.2.2
      · exact (RUN_sp y.2.2).1
      · exact absurd y.1 (by decide)
    rcases s7 with y | y | y
    · rcases y with y | y
      · exact absurd c13 y
      · have c7'' : q3.2.1.1 1907 = 0 := c7'
        rw [c7''] at y
        exact absurd y.2.1 (by decide)
    · exact ⟨y.2.1, y.2.2⟩
    · exact absurd y.1 (by decide)
  · refine Tm_op (Tm_By c_fill23 (fun k => kb_y_J7_fill_53178__a23 _ _ _ _ s4)) (fun q4 z4 => ?_)
    obtain ⟨⟨f, zf, hf⟩, by4⟩ := z4
    have m4 : MIn c g' l' t' K' K2' K3' (fun _ => none) (4 + tcF c 0) KH q4.2 := by
      rw [zf]
      obtain ⟨m1, ⟨v1, v2, v3⟩, m3, m4, m5, m6⟩ := m'
      have md : Md q3.2.1 (uF q3.2.1 23 f) := Md_F q3.2.1 (by decide) f
      have rk4 : Rwk g' ((uF q3.2.1 23 f).2.2.1 3) (fun _ => none) ((uF q3.2.1 23 f).2.2.1 23) 3780 := by
        rw [uF_s]
        intro j hj
        rw [hf j hj]
        exact Rwn (Gv_om g')
      exact ⟨HQ_fr m1 rfl rfl rfl, ⟨v1, rk4, v3⟩, CtL_M m3 (Md_M md), m4, SVK_d md m5, m6⟩
    have f4 : MFr q3.2.1 q4.2 := by rw [zf]; exact Md_M (Md_F q3.2.1 (by decide) f)
    have ph4 := Ph_s (σ := q3.2.1) (σ' := q4.2) (by rw [zf]; rfl)
    generalize q4.2 = ω at *
    obtain ⟨b', eb', cb'⟩ := m4.2.2.1
    have cr := (Ct_row m4.2.2.1 eb').2.2 0 (by decide)
    have e4 : uN (4 : Int32) = 4 := rfl
    have ef : uN (4 + ω.2.2.1 (pR18 b') 0) = 4 + tcF c 0 := by rw [u_add (by rw [cr.2.2, e4]; omega), cr.2.2, e4]
    have mb4 := m4.2.2.2.2.2.2.1.2
    refine Tm_suc (fun k => by rw [f_X3_advance]) ?_
    refine Tm_oP (b := b') eb' ?_
    refine Tm_chk (by decide) ?_
    refine Tm_suc (fun k => by rw [f_X3_advance]) ?_
    have mf := MIn_fw (σ' := uI (uI (uI (uI ω 1906 (ω.1 1813)) 1907 2) 1901 0) 1902 (4 + ω.2.2.1 (pR18 b') 0)) m4 rfl (fun j hj => by rw [uI_o (by omega), uI_o (by omega), uI_o (by omega), uI_o (by omega)]) (by rw [uI_s, ef]; exact Nat.le_refl _) (by rw [uI_s, ef]; exact mb4) (by rw [uI_o (by decide), uI_o (by decide), uI_o (by decide), uI_o (by decide), uI_o (by decide), uI_o (by decide), uI_o (by decide), uI_o (by decide)]; exact m4.2.2.2.2.2.2.2.1)
    have ph5 := Ph_s (σ := ω) (σ' := uI (uI (uI (uI ω 1906 (ω.1 1813)) 1907 2) 1901 0) 1902 (4 + ω.2.2.1 (pR18 b') 0)) rfl
    refine Tm_some ⟨rfl, ⟨?_, ?_⟩, MFr_t (MFr_t (MFr_t fx s2) f4) (Mw_M mf.2), BY_I (by decide) (BY_I (by decide) (BY_7 (Or.inr (fun y => y)) (BY_I (by decide) (BY_f by4)))), ?_, g', l', t', K', K2', K3', _, mf.1, fun c7' => ?_⟩
    · show q3.2.2.1 + 0 + PhC (uI (uI (uI (uI ω 1906 (ω.1 1813)) 1907 2) 1901 0) 1902 (4 + ω.2.2.1 (pR18 b') 0)) ≤ _
      omega
    · show q3.2.2.2 + 0 + PhS (uI (uI (uI (uI ω 1906 (ω.1 1813)) 1907 2) 1901 0) 1902 (4 + ω.2.2.1 (pR18 b') 0)) ≤ _
      omega
    · show uN ((uI (uI (uI (uI ω 1906 (ω.1 1813)) 1907 2) 1901 0) 1902 (4 + ω.2.2.1 (pR18 b') 0)).1 1902) ≤ 10404
      rw [uI_s, ef]; omega
    · have z : (uI (uI (uI (uI ω 1906 (ω.1 1813)) 1907 2) 1901 0) 1902 (4 + ω.2.2.1 (pR18 b') 0)).1 1907 = 0 := c7'
      rw [uI_o (by decide), uI_o (by decide), uI_s] at z
      exact absurd z (by decide)
end CUJ
end JnS425
section JnS426
/-! The class: the newest of the saved runs. -/
section CUK
variable {g g' g2 : Nat → Prop} {l l' l2 : List Nat} {t t' t2 : Nat} {σ σ' σ2 τ τ' φ : CS} {L : LV} {x y z i : Int32} {M M' U U' : Nat → Int32} {K K' K0 K2 K2' K3 K3' K4 K4' KB : Nat → Option Int32} {c : Ct} {B f0 u0 a T : Nat} {fs : List FrT} {u d : Nat} {r r' : List Nat} {pb nf nc sq rk : Nat}
/-- none, or one that isn't beyond -/
def NwA (σ : CS) (n : Nat) (x : Int32) : Prop := x = -1 ∨ ∃ a, x = nI a ∧ (a < uN (σ.1 2404) ∨ (a = 8 ∧ ¬ σ.1 2405 = 0)) ∧ uN (σ.1 (100 * (28 + sPi σ a) + 3)) ≤ n
theorem c_newest (sv : SVK c K σ) (hn : uN (L.1 1) < 2147483648) : Tm (fun k => y_X9_newest k 0 L σ) (fun q => q.2 = σ ∧ NwA σ (uN (L.1 1)) q.1) := by
  obtain ⟨⟨⟨h4, h3⟩, b1', b2'⟩, hp, hi, -, -⟩ := sv
  have b3 : ∀ (m : Nat) (L' : LV), L'.1 1 = L.1 1 → NwA σ (uN (L.1 1)) (L'.1 2) → uN (L'.1 3) + m = uN (σ.1 2404) → Tm (fun k => y_X9_newest k 3 L' σ) (fun q => q.2 = σ ∧ NwA σ (uN (L.1 1)) q.1) := by
    intro m
    induction m with
    | zero =>
      intro L' l1 nw hm
      refine Tm_suc (fun k => by rw [y_X9_newest]) ?_
      refine Tm_yes (by rw [u_le (by omega) (by omega)]; omega) ?_
      refine Tm_suc (fun k => by rw [y_X9_newest]) ?_
      exact Tm_some ⟨rfl, nw⟩
    | succ m ih =>
      intro L' l1 nw hm
      have c3 : (L'.1 3).toNatClampNeg = uN (L'.1 3) := u_cl (by omega)
      have i3 : ¬ (L'.1 3 < 0 ∨ 9 ≤ uN (L'.1 3)) := by
        have z : ¬ (L'.1 3 < 0 ∨ 9 ≤ (L'.1 3).toNatClampNeg) := u_in (by omega) (by decide)
        rw [c3] at z; exact z
      have p3 := hp (uN (L'.1 3)) (by omega)
      have z := b1' (uN (L'.1 3)) (by omega)
      have z2 := z.2.1
      have e31 : uN (L'.1 3 + 1) = uN (L'.1 3) + 1 := u_inc (by omega)
      have b5 : ∀ L2 : LV, L2.1 1 = L.1 1 → NwA σ (uN (L.1 1)) (L2.1 2) → L2.1 3 = L'.1 3 → Tm (fun k => y_X9_newest k 5 L2 σ) (fun q => q.2 = σ ∧ NwA σ (uN (L.1 1)) q.1) := by
        intro L2 o1 o2 o3
        refine Tm_suc (fun k => by rw [y_X9_newest]) ?_
        refine ih _ o1 o2 ?_
        show uN (L2.1 3 + 1) + m = _
        rw [o3, e31]; omega
      have b6 : ∀ L2 : LV, L2.1 1 = L.1 1 → L2.1 3 = L'.1 3 → uN (σ.1 (100 * (28 + sPi σ (uN (L'.1 3))) + 3)) ≤ uN (L.1 1) → Tm (fun k => y_X9_newest k 6 L2 σ) (fun q => q.2 = σ ∧ NwA σ (uN (L.1 1)) q.1) := by
        intro L2 o1 o3 le
        refine Tm_suc (fun k => by rw [y_X9_newest]) ?_
        refine b5 _ o1 (Or.inr ⟨uN (L'.1 3), ?_, Or.inl (by omega), le⟩) o3
        show L2.1 3 = nI (uN (L'.1 3))
        rw [o3]; exact u_of _
      refine Tm_suc (fun k => by rw [y_X9_newest]) ?_
      rw [c3]
      refine Tm_no (by rw [u_le (by omega) (by omega)]; omega) ?_
      refine Tm_chk i3 (Tm_chk p3 ?_)
      refine Tm_ite (fun _ => b5 _ l1 nw rfl) (fun cl => ?_)
      have le : uN (σ.1 (100 * (28 + sPi σ (uN (L'.1 3))) + 3)) ≤ uN (L.1 1) := by
        rw [l1, u_ltn (by omega) (by omega)] at cl
        omega
      refine Tm_ite (fun _ => b6 _ l1 rfl le) (fun c1 => ?_)
      rcases nw with y | ⟨a, y1, y2, y3⟩
      · exact absurd y c1
      · have a9 : a < 9 := by omega
        have ca : (L'.1 2).toNatClampNeg = a := by rw [y1, u_cl (by rw [u_n (by omega)]; omega), u_n (by omega)]
        have ia : ¬ (L'.1 2 < 0 ∨ 9 ≤ (L'.1 2).toNatClampNeg) := u_in (by rw [y1, u_n (by omega)]; omega) (by decide)
        refine Tm_chk i3 (Tm_chk p3 (Tm_chk ia ?_))
        rw [ca]
        refine Tm_chk (hp a a9) ?_
        exact Tm_ite (fun _ => b5 _ l1 (Or.inr ⟨a, y1, y2, y3⟩) rfl) (fun _ => b6 _ l1 rfl le)
  have b2 : ∀ L' : LV, L'.1 1 = L.1 1 → NwA σ (uN (L.1 1)) (L'.1 100) → Tm (fun k => y_X9_newest k 2 L' σ) (fun q => q.2 = σ ∧ NwA σ (uN (L.1 1)) q.1) := by
    intro L' l1 nw
    refine Tm_suc (fun k => by rw [y_X9_newest]) ?_
    exact b3 (uN (σ.1 2404)) _ l1 nw (Nat.zero_add _)
  have b1 : ∀ L' : LV, L'.1 1 = L.1 1 → Tm (fun k => y_X9_newest k 1 L' σ) (fun q => q.2 = σ ∧ NwA σ (uN (L.1 1)) q.1) := by
    intro L' l1
    refine Tm_suc (fun k => by rw [y_X9_newest]) ?_
    exact b2 _ l1 (Or.inl rfl)
  have e8 : (8 : Int32).toNatClampNeg = 8 := rfl
  refine Tm_suc (fun k => by rw [y_X9_newest]) ?_
  refine Tm_ite (fun _ => b1 _ rfl) (fun c5 => ?_)
  rw [e8]
  refine Tm_chk (by decide) (Tm_chk (hp 8 (by decide)) ?_)
  have z := b2' c5
  refine Tm_ite (fun _ => b1 _ rfl) (fun cl => ?_)
  rw [u_ltn (by omega) (by omega)] at cl
  exact b2 _ rfl (Or.inr ⟨8, rfl, Or.inr ⟨rfl, c5⟩, by omega⟩)
end CUK
end JnS426
section JnS427
/-! The class: a saved run is taken up again. -/
section CUL
variable {g g' g2 : Nat → Prop} {l l' l2 : List Nat} {t t' t2 : Nat} {σ σ' σ2 τ τ' φ : CS} {L : LV} {x y z i : Int32} {M M' U U' : Nat → Int32} {K K' K0 K2 K2' K3 K3' K4 K4' KB : Nat → Option Int32} {c : Ct} {B f0 u0 a T : Nat} {fs : List FrT} {u d : Nat} {r r' : List Nat} {pb nf nc sq rk : Nat}
/-- so many fields of a run were taken -/
def Cpb (σ : CS) (p n : Nat) (τ : CS) : Prop := (∀ j, ¬ (1900 ≤ j ∧ j < 1916) → τ.1 j = σ.1 j) ∧ (∀ i, i < n → τ.1 (1900 + i) = σ.1 (100 * (28 + p) + i)) ∧ τ.2 = σ.2
theorem Cpb_1 {p n : Nat} (hn : n < 16) (h : Cpb σ p n τ) (hv : x = τ.1 (100 * (28 + p) + n)) : Cpb σ p (n + 1) (uI τ (1900 + n) x) := by
  refine ⟨fun j hj => ?_, fun i hi => ?_, h.2.2⟩
  · rw [uI_o (by omega)]
    exact h.1 j hj
  · by_cases e : i = n
    · rw [e, uI_s, hv]
      exact h.1 _ (by omega)
    · rw [uI_o (by omega)]
      exact h.2.1 i (by omega)
theorem c_copyBack {p : Nat} (hp : p < 9) (h0 : L.2.2.2 1 = p) : Tm (fun k => y_X8_copyFrom__a19__R k 0 L σ) (fun q => (∀ j, ¬ (1900 ≤ j ∧ j < 1916) → q.2.1 j = σ.1 j) ∧ (∀ i, i < 16 → q.2.1 (1900 + i) = σ.1 (100 * (28 + p) + i)) ∧ ∃ v, q.2.2 = (uL σ 1916 v).2) := by
  have b5 : ∀ τ, Cpb σ p 15 τ → Tm (fun k => y_X8_copyFrom__a19__R k 5 L τ) (fun q => (∀ j, ¬ (1900 ≤ j ∧ j < 1916) → q.2.1 j = σ.1 j) ∧ (∀ i, i < 16 → q.2.1 (1900 + i) = σ.1 (100 * (28 + p) + i)) ∧ ∃ v, q.2.2 = (uL σ 1916 v).2) := by
    intro τ h
    refine Tm_suc (fun k => by rw [y_X8_copyFrom__a19__R]) ?_
    rw [h0]
    refine Tm_chk hp (Tm_chk hp ?_)
    have z := Cpb_1 (n := 15) (by decide) h rfl
    refine Tm_some ⟨z.1, z.2.1, σ.2.1 (100 * (28 + p) + 16), ?_⟩
    show (updW τ.2.1 1916 (τ.2.1 (100 * (28 + p) + 16)), τ.2.2) = (updW σ.2.1 1916 (σ.2.1 (100 * (28 + p) + 16)), σ.2.2)
    rw [h.2.2]
  have b4 : ∀ τ, Cpb σ p 12 τ → Tm (fun k => y_X8_copyFrom__a19__R k 4 L τ) (fun q => (∀ j, ¬ (1900 ≤ j ∧ j < 1916) → q.2.1 j = σ.1 j) ∧ (∀ i, i < 16 → q.2.1 (1900 + i) = σ.1 (100 * (28 + p) + i)) ∧ ∃ v, q.2.2 = (uL σ 1916 v).2) := by
    intro τ h
    refine Tm_suc (fun k => by rw [y_X8_copyFrom__a19__R]) ?_
    rw [h0]
    refine Tm_chk hp (Tm_chk hp (Tm_chk hp ?_))
    exact b5 _ (Cpb_1 (n := 14) (by decide) (Cpb_1 (n := 13) (by decide) (Cpb_1 (n := 12) (by decide) h rfl) rfl) rfl)
  have b3 : ∀ τ, Cpb σ p 9 τ → Tm (fun k => y_X8_copyFrom__a19__R k 3 L τ) (fun q => (∀ j, ¬ (1900 ≤ j ∧ j < 1916) → q.2.1 j = σ.1 j) ∧ (∀ i, i < 16 → q.2.1 (1900 + i) = σ.1 (100 * (28 + p) + i)) ∧ ∃ v, q.2.2 = (uL σ 1916 v).2) := by
    intro τ h
    refine Tm_suc (fun k => by rw [y_X8_copyFrom__a19__R]) ?_
    rw [h0]
    refine Tm_chk hp (Tm_chk hp (Tm_chk hp ?_))
    exact b4 _ (Cpb_1 (n := 11) (by decide) (Cpb_1 (n := 10) (by decide) (Cpb_1 (n := 9) (by decide) h rfl) rfl) rfl)
  have b2 : ∀ τ, Cpb σ p 6 τ → Tm (fun k => y_X8_copyFrom__a19__R k 2 L τ) (fun q => (∀ j, ¬ (1900 ≤ j ∧ j < 1916) → q.2.1 j = σ.1 j) ∧ (∀ i, i < 16 → q.2.1 (1900 + i) = σ.1 (100 * (28 + p) + i)) ∧ ∃ v, q.2.2 = (uL σ 1916 v).2) := by
    intro τ h
    refine Tm_suc (fun k => by rw [y_X8_copyFrom__a19__R]) ?_
    rw [h0]
    refine Tm_chk hp (Tm_chk hp (Tm_chk hp ?_))
    exact b3 _ (Cpb_1 (n := 8) (by decide) (Cpb_1 (n := 7) (by decide) (Cpb_1 (n := 6) (by decide) h rfl) rfl) rfl)
  have b1 : ∀ τ, Cpb σ p 3 τ → Tm (fun k => y_X8_copyFrom__a19__R k 1 L τ) (fun q => (∀ j, ¬ (1900 ≤ j ∧ j < 1916) → q.2.1 j = σ.1 j) ∧ (∀ i, i < 16 → q.2.1 (1900 + i) = σ.1 (100 * (28 + p) + i)) ∧ ∃ v, q.2.2 = (uL σ 1916 v).2) := by
    intro τ h
    refine Tm_suc (fun k => by rw [y_X8_copyFrom__a19__R]) ?_
    rw [h0]
    refine Tm_chk hp (Tm_chk hp (Tm_chk hp ?_))
    exact b2 _ (Cpb_1 (n := 5) (by decide) (Cpb_1 (n := 4) (by decide) (Cpb_1 (n := 3) (by decide) h rfl) rfl) rfl)
  have h : Cpb σ p 0 σ := ⟨fun _ _ => rfl, fun i hi => absurd hi (Nat.not_lt_zero i), rfl⟩
  refine Tm_suc (fun k => by rw [y_X8_copyFrom__a19__R]) ?_
  rw [h0]
  refine Tm_chk hp (Tm_chk hp (Tm_chk hp ?_))
  exact b1 _ (Cpb_1 (n := 2) (by decide) (Cpb_1 (n := 1) (by decide) (Cpb_1 (n := 0) (by decide) h rfl) rfl) rfl)
end CUL
end JnS427
