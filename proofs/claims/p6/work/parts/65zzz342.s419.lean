/-! The class: add, addNear, save. -/
section CUD
variable {g g' g2 : Nat → Prop} {l l' l2 : List Nat} {t t' t2 : Nat} {σ σ' σ2 τ τ' φ : CS} {L : LV} {x y z i : Int32} {M M' U U' : Nat → Int32} {K K' K0 K2 K2' K3 K3' K4 K4' KB : Nat → Option Int32} {c : Ct} {B f0 u0 a T : Nat} {fs : List FrT} {u d : Nat} {r r' : List Nat} {pb nf nc sq rk : Nat}
/-- one more of the eight -/
theorem Sv_ad {q : RS} (so : StO σ a q) (sv : SV8 c g K3 σ) (ha : uN (σ.1 2404) = a) (a7 : a ≤ 7) (rn : RnO c K K2 σ) (r20 : Rwk g (σ.2.2.1 3) K (σ.2.2.1 20) (uN (σ.1 1902))) (r21 : Rwk g (σ.2.2.1 3) K2 (σ.2.2.1 21) (uN (σ.1 1913))) (h19 : ∀ i, i < a → bg8 σ i < uN (σ.1 1903)) (h7 : uN (σ.1 1903) < uN (σ.1 2407)) (hb : uN (σ.1 1903) ≤ 10240000) (e : ∀ j, ¬ (j = 2403 ∨ j = 2404) → φ.1 j = q.2.1.1 j) (e2 : φ.2 = q.2.1.2) (e3 : uN (φ.1 2403) = uN (σ.1 2403) + uN (σ.1 1902) + uN (σ.1 1913)) (e4 : uN (φ.1 2404) = a + 1) : SV8 c g (K9 K3 K K2 (uN (σ.1 2403)) (uN (σ.1 1902))) φ := by
  have sn := St_n (K3 := K3) so rn
  have sw := St_w so sv.2.2.2.2.1 r20 r21
  have so0 := so
  obtain ⟨s1, s2, sf, s4, s5, s6, s7, s8, s9, s10, s11, s12⟩ := so
  obtain ⟨⟨h1, h2, h3⟩, a1, a2, a3, a4, a5⟩ := sv
  have ep : ∀ i, sPi φ i = sPi σ i := fun i => by
    show φ.2.2.2.2.2.2 i = _
    rw [e2]; exact s5 i
  have en : ∀ k, sN φ k = sN q.2.1 k := fun k => by show φ.2.2.2.2.1 k = _; rw [e2]
  have er : ∀ k, φ.2.2.1 k = q.2.1.2.2.1 k := fun k => by rw [e2]
  have ef : ∀ p j, p < 9 → φ.1 (100 * (28 + p) + j) = q.2.1.1 (100 * (28 + p) + j) := fun p j hp => e _ (by omega)
  have pa := a1 a (by omega)
  have e27a : uN (φ.2.2.1 27 a) = uN (σ.1 2403) := by rw [er, s6, upd_same]
  have e27 : ∀ i, ¬ i = a → uN (φ.2.2.1 27 i) = uN (σ.2.2.1 27 i) := fun i hi => by rw [er, s6, upd_other hi]
  have eo : ∀ i, i < 9 → ¬ i = a → en8 φ i = en8 σ i ∧ bg8 φ i = bg8 σ i := fun i hi ne => by
    have p9 := a1 i hi
    have np : ¬ sPi σ i = sPi σ a := fun z => ne (a2 i a hi (by omega) z)
    unfold en8 bg8
    rw [e27 i ne, ep, ef _ _ p9, ef _ _ p9, ef _ _ p9, s7 _ _ p9 np (by decide), s7 _ _ p9 np (by decide), s7 _ _ p9 np (by decide)]
    exact ⟨rfl, rfl⟩
  have t2' : φ.1 (100 * (28 + sPi σ a) + 2) = σ.1 1902 := (ef _ _ pa).trans (s8 2 (by decide))
  have t13 : φ.1 (100 * (28 + sPi σ a) + 13) = σ.1 1913 := (ef _ _ pa).trans (s8 13 (by decide))
  have t3' : φ.1 (100 * (28 + sPi σ a) + 3) = σ.1 1903 := (ef _ _ pa).trans (s8 3 (by decide))
  have ea : en8 φ a = uN (σ.1 2403) + uN (σ.1 1902) + uN (σ.1 1913) ∧ bg8 φ a = uN (σ.1 1903) := by
    unfold en8 bg8
    rw [e27a, ep, t2', t13, t3']
    exact ⟨rfl, rfl⟩
  have f7 : uN (φ.1 2407) = uN (σ.1 2407) := by rw [e 2407 (by decide), s4 2407 (by decide) (by decide)]
  refine ⟨⟨by omega, by rw [e3, en]; exact s9.1, by rw [en]; exact s9.2⟩, fun i hi => by rw [ep]; exact a1 i hi, fun i j hi hj z => a2 i j hi hj (by rw [ep, ep] at z; exact z), fun i hi => ?_, by rw [er, er, e3]; exact sw, fun i hi => ?_⟩
  · rw [e4] at hi
    by_cases ia : i = a
    · rw [ia]
      refine ⟨?_, by rw [ea.1, e3]; exact Nat.le_refl _, fun k k1 k2 => absurd k2 (by omega)⟩
      rw [ep, e27a]
      exact SvR_m sn (fun j _ => ef _ _ pa) (en 20) (en 21) (fun _ _ => rfl)
    · have z := a3 i (by omega)
      have z2 := z.2.1
      have o := eo i (by omega) ia
      refine ⟨?_, by rw [o.1, e3]; omega, fun k k1 k2 => ?_⟩
      · rw [ep, e27 i ia]
        exact SvR_m (St_o so0 (by omega) (by omega) ia a1 a2 z.1 z2) (fun j _ => ef _ _ (a1 i (by omega))) (en 20) (en 21) (fun _ _ => rfl)
      · rw [o.1]
        by_cases ka : k = a
        · rw [ka, e27a]; exact z2
        · rw [e27 k ka]
          exact z.2.2 k k1 (by omega)
  · rw [e4] at hi
    rw [f7]
    by_cases ia : i = a
    · rw [ia, ea.2]
      exact ⟨h7, hb, fun k k1 k2 => absurd k2 (by omega)⟩
    · have z := a5 i (by omega)
      have o := eo i (by omega) ia
      rw [o.2]
      refine ⟨z.1, z.2.1, fun k k1 k2 => ?_⟩
      by_cases ka : k = a
      · rw [ka, ea.2]; exact h19 i (by omega)
      · rw [(eo k (by omega) ka).2]
        exact z.2.2 k k1 (by omega)
/-- behind an adding -/
def AdQ (c : Ct) (g : Nat → Prop) (l : List Nat) (t : Nat) (K K2 K4 : Nat → Option Int32) (B : Nat) (KB : Nat → Option Int32) (σ : CS) (z : RS) : Prop := z.1 = (0, 0) ∧ CoP σ z ∧ SvF σ z.2.1 ∧ ∃ K3', MIn c g l t K K2 K3' K4 B KB z.2.1
theorem c_add (mi : MIn c g l t K K2 K3 K4 B KB σ) (rn : RnO c K K2 σ) (h3 : σ.1 1903 = σ.1 2407) : Tm (fun k => f_X9_add__a19__z20__z21 k 0 L σ) (AdQ c g l t K K2 K4 B KB σ) := by
  have hb : uN (σ.1 1903) ≤ 10240000 := by have := mi.2.2.2.2.2.2.2.1; omega
  obtain ⟨st1, st2, st3⟩ := mi.2.1.1
  obtain ⟨pt1, pt2, pt3⟩ := mi.2.1.2.2.1
  have b4 : ∀ (τ : CS) (L' : LV) (K3' : Nat → Option Int32) (n1 n2 : Nat), SvF σ τ → SV8 c g K3' τ → τ.1 2405 = 0 → n1 + PhC τ ≤ PhC σ → n2 + PhS τ ≤ PhS σ → Tm (fun k => f_X9_add__a19__z20__z21 k 4 L' τ) (fun q => AdQ c g l t K K2 K4 B KB σ (q.1, q.2.1, (n1 + q.2.2.1, n2 + q.2.2.2))) := by
    intro τ L' K3' n1 n2 sf sv e5 k1 k2
    refine Tm_suc (fun k => by rw [f_X9_add__a19__z20__z21]) ?_
    exact Tm_some ⟨rfl, ⟨by show n1 + 0 + PhC τ ≤ _; omega, by show n2 + 0 + PhS τ ≤ _; omega⟩, sf, K3', MIn_8 mi sf sv e5⟩
  have b4' : ∀ (τ : CS) (L' : LV) (K3' : Nat → Option Int32), SvF σ τ → SV8 c g K3' τ → τ.1 2405 = 0 → τ.2.2.2.2.1 = σ.2.2.2.2.1 → Tm (fun k => f_X9_add__a19__z20__z21 k 4 L' τ) (AdQ c g l t K K2 K4 B KB σ) := by
    intro τ L' K3' sf sv e5 es
    refine Tm_suc (fun k => by rw [f_X9_add__a19__z20__z21]) ?_
    exact Tm_some ⟨rfl, CoP_0 es, sf, K3', MIn_8 mi sf sv e5⟩
  have b2 : ∀ (τ : CS) (L' : LV) (K3' : Nat → Option Int32), SvF σ τ → SV8 c g K3' τ → τ.1 2405 = 0 → τ.1 2407 = σ.1 2407 → τ.2.2.2.2.1 = σ.2.2.2.2.1 → uN (τ.1 2404) ≤ 7 → Tm (fun k => f_X9_add__a19__z20__z21 k 2 L' τ) (AdQ c g l t K K2 K4 B KB σ) := by
    intro τ L' K3' sf sv e5 e7 es le7
    have e19 : τ.1 1903 = σ.1 1903 := sf.1 1903 (by decide)
    have ww := w8_u (τ.1 2406)
    have nx : uN (τ.1 1903) < uN ((τ.1 1903 / w8 (τ.1 2406) + 1) * w8 (τ.1 2406)) := nx8 (by rw [e19]; exact hb) ww.1 ww.2
    have sf1 : SvF σ (uI τ 2407 ((τ.1 1903 / w8 (τ.1 2406) + 1) * w8 (τ.1 2406))) := SvF_t sf (SvF_i τ (by decide) _)
    have sv1 : SV8 c g K3' (uI τ 2407 ((τ.1 1903 / w8 (τ.1 2406) + 1) * w8 (τ.1 2406))) := SV8_e sv (fun j hj => uI_o (by omega)) rfl (by
      rw [uI_s, e7, ← h3, ← e19]; exact Nat.le_of_lt nx)
    have e51 : (uI τ 2407 ((τ.1 1903 / w8 (τ.1 2406) + 1) * w8 (τ.1 2406))).1 2405 = 0 := by rw [uI_o (by decide)]; exact e5
    have old := sv.2.2.2.2.2
    have n20 : sN τ 20 = sN σ 20 := sf.2.2.2.1 20 (by decide)
    have n21 : sN τ 21 = sN σ 21 := sf.2.2.2.1 21 (by decide)
    have t02 : τ.1 1902 = σ.1 1902 := sf.1 1902 (by decide)
    have t13 : τ.1 1913 = σ.1 1913 := sf.1 1913 (by decide)
    refine Tm_suc (fun k => by rw [f_X9_add__a19__z20__z21]) ?_
    refine Tm_no (w256 _) (Tm_no (w256 _) ?_)
    refine Tm_ite (fun _ => ?_) (fun _ => b4' _ _ K3' sf1 sv1 e51 es)
    refine Tm_op (c_isRoomS (σ := uI τ 2407 ((τ.1 1903 / w8 (τ.1 2406) + 1) * w8 (τ.1 2406))) (by rw [uI_o (by decide)]; omega) (by rw [uI_o (by decide)]; have := sv.1; omega) (by rw [uI_o (by decide), t02]; omega) (by rw [uI_o (by decide), t13]; omega) sv.2.1) (fun q z => ?_)
    obtain ⟨z1, z2 | ⟨z2, z3⟩⟩ := z
    · refine Tm_yes z2 ?_
      rw [z1]
      exact b4' _ _ K3' sf1 sv1 e51 es
    · refine Tm_no (by rw [z2]; decide) ?_
      rw [z1]
      generalize hτ : uI τ 2407 ((τ.1 1903 / w8 (τ.1 2406) + 1) * w8 (τ.1 2406)) = ρ at *
      have o : ∀ j, ¬ j = 2407 → ρ.1 j = τ.1 j := fun j hj => by rw [← hτ]; exact uI_o hj
      have oe : ρ.2 = τ.2 := by rw [← hτ]; rfl
      have o7 : uN (ρ.1 1903) < uN (ρ.1 2407) := by rw [o 1903 (by decide), ← hτ, uI_s]; exact nx
      have on : ∀ k, sN ρ k = sN τ k := fun k => by show ρ.2.2.2.2.1 k = _; rw [oe]
      have op' : ∀ i, sPi ρ i = sPi τ i := fun i => by show ρ.2.2.2.2.2.2 i = _; rw [oe]
      have v1 := sv1.1
      refine Tm_oxc (c_store (σ := ρ) (a := uN (ρ.1 2404)) v1.2.1 v1.2.2 (by rw [o 1902 (by decide), t02, on, n20]; exact st1) (by rw [on, n20]; exact st2.2) (by rw [o 1913 (by decide), t13, on, n21]; exact pt1) (by rw [on, n21]; exact pt2) z3 (by omega) rfl (sv1.2.1 _ (by omega))) (fun r s => by rw [s.1]) (fun q3 so => ?_)
      have cp := so.2.1
      have c1 := cp.1
      have c2 := cp.2
      have s4 := so.2.2.2.1
      have sf3 := so.2.2.1
      have q3' : q3.2.1.1 2403 = ρ.1 2403 := s4 2403 (by decide) (by decide)
      have q4' : q3.2.1.1 2404 = ρ.1 2404 := s4 2404 (by decide) (by decide)
      have q5' : q3.2.1.1 2405 = ρ.1 2405 := s4 2405 (by decide) (by decide)
      have q02 : q3.2.1.1 1902 = ρ.1 1902 := sf3.1 1902 (by decide)
      have q13 : q3.2.1.1 1913 = ρ.1 1913 := sf3.1 1913 (by decide)
      have l4 : uN (ρ.1 2404) ≤ 7 := by rw [o 2404 (by decide)]; exact le7
      refine Tm_suc (fun k => by rw [f_X9_add__a19__z20__z21]) ?_
      have es1 : uN (ρ.1 2403 + ρ.1 1902 + ρ.1 1913) = uN (ρ.1 2403) + uN (ρ.1 1902) + uN (ρ.1 1913) := by rw [u_add (by rw [u_add (by omega)]; omega), u_add (by omega)]
      have fin := Sv_ad (φ := uI (uI q3.2.1 2403 (q3.2.1.1 2403 + q3.2.1.1 1902 + q3.2.1.1 1913)) 2404 ((uI q3.2.1 2403 (q3.2.1.1 2403 + q3.2.1.1 1902 + q3.2.1.1 1913)).1 2404 + 1)) (K := K) (K2 := K2) so sv1 rfl l4 (RnO_e rn sf1) (by
        rw [sf1.2.2.1 3 (by decide), sf1.2.2.1 20 (by decide), sf1.1 1902 (by decide)]; exact st3) (by
        rw [sf1.2.2.1 3 (by decide), sf1.2.2.1 21 (by decide), sf1.1 1913 (by decide)]; exact pt3) (fun i hi => by
        have z := (sv.2.2.2.2.2 i (by rw [o 2404 (by decide)] at hi; exact hi)).1
        have p9 := sv.2.1 i (by omega)
        rw [e7, ← h3, ← e19] at z
        rw [o 1903 (by decide)]
        show uN (ρ.1 (100 * (28 + sPi ρ i) + 3)) < _
        rw [op', o _ (by omega)]
        exact z) o7 (by rw [o 1903 (by decide), e19]; exact hb) (fun j hj => by rw [uI_o (by omega), uI_o (by omega)]) rfl (by
        rw [uI_o (by decide), uI_s, q3', q02, q13]; exact es1) (by
        rw [uI_s, uI_o (by decide), q4']; exact u_inc (by omega))
      have ph := Ph_s (σ := q3.2.1) (σ' := uI (uI q3.2.1 2403 (q3.2.1.1 2403 + q3.2.1.1 1902 + q3.2.1.1 1913)) 2404 ((uI q3.2.1 2403 (q3.2.1.1 2403 + q3.2.1.1 1902 + q3.2.1.1 1913)).1 2404 + 1)) rfl
      have ph2 := Ph_s (σ := σ) (σ' := ρ) (by show ρ.2.2.2.2.1 = _; rw [oe]; exact es)
      exact b4 _ _ _ _ _ (SvF_t (SvF_t sf1 sf3) (SvF_t (SvF_i _ (by decide) _) (SvF_i _ (by decide) _))) fin (by rw [uI_o (by decide), uI_o (by decide), q5']; exact e51) (by omega) (by omega)
  have b1 : ∀ (m n : Nat) (τ : CS) (L' : LV) (K3' : Nat → Option Int32), n + m = 30 → uN (L'.1 4) = n → SvF σ τ → SV8 c g K3' τ → τ.1 2405 = 0 → τ.1 2407 = σ.1 2407 → τ.2.2.2.2.1 = σ.2.2.2.2.1 → (uN (τ.1 2404) ≤ 7 ∨ n = 0 ∨ (1 ≤ n ∧ 256 * 2 ^ (n - 1) ≤ uN (w8 (τ.1 2406)) ∧ uN (w8 (τ.1 2406)) < 2097152)) → Tm (fun k => f_X9_add__a19__z20__z21 k 1 L' τ) (AdQ c g l t K K2 K4 B KB σ) := by
    intro m
    induction m with
    | zero =>
      intro n τ L' K3' nm l4 sf sv e5 e7 es inv
      have le7 : uN (τ.1 2404) ≤ 7 := by
        rcases inv with y | y | ⟨y1, y2, y3⟩
        · exact y
        · omega
        · have e : n = 30 := by omega
          rw [e] at y2
          have y4 : 256 * 2 ^ 29 ≤ uN (w8 (τ.1 2406)) := y2
          omega
      have e30 : uN (30 : Int32) = 30 := rfl
      refine Tm_suc (fun k => by rw [f_X9_add__a19__z20__z21]) ?_
      exact Tm_yes (by rw [u_le (by decide) (by omega), e30]; omega) (b2 _ _ K3' sf sv e5 e7 es le7)
    | succ m ih =>
      intro n τ L' K3' nm l4 sf sv e5 e7 es inv
      have e30 : uN (30 : Int32) = 30 := rfl
      have e00 : uN (0 : Int32) = 0 := rfl
      have b3 : ∀ L2 : LV, L2.1 4 = L'.1 4 → Tm (fun k => f_X9_add__a19__z20__z21 k 3 L2 τ) (AdQ c g l t K K2 K4 B KB σ) := by
        intro L2 o4
        have n20 : sN τ 20 = sN σ 20 := sf.2.2.2.1 20 (by decide)
        have n21 : sN τ 21 = sN σ 21 := sf.2.2.2.1 21 (by decide)
        refine Tm_suc (fun k => by rw [f_X9_add__a19__z20__z21]) ?_
        refine Tm_oxc (c_thinOut sv ⟨by rw [n20]; exact st2.2, by rw [n21]; exact pt2⟩) (fun q z => by rw [z.1]) (fun q z => ?_)
        obtain ⟨z1, z2, z3, z4, z5, ⟨w1, w2, w3, w4⟩, K5, z6⟩ := z
        rw [z2]
        have inv' : uN (q.2.1.1 2404) ≤ 7 ∨ n + 1 = 0 ∨ (1 ≤ n + 1 ∧ 256 * 2 ^ (n + 1 - 1) ≤ uN (w8 (q.2.1.1 2406)) ∧ uN (w8 (q.2.1.1 2406)) < 2097152) := by
          rcases Nat.lt_or_ge (uN (w8 (q.2.1.1 2406))) 2097152 with y | y
          · rcases inv with v | v | ⟨v1, v2, v3⟩
            · left; omega
            · right; right
              refine ⟨by omega, ?_, y⟩
              rw [v]
              exact (w8_u _).1
            · right; right
              refine ⟨by omega, ?_, y⟩
              rw [w1, w8_2 (by omega)]
              have e : n + 1 - 1 = n - 1 + 1 := by omega
              rw [e, Nat.pow_succ]
              omega
          · left
            have := few8 z6.2.2.2.2.2 w4 y
            omega
        refine Tm_mono (ih (n + 1) q.2.1 _ K5 (by omega) ?_ (SvF_t sf z3) z6 (z5.trans e5) (w2.trans e7) (z4.trans es) inv') (fun q2 y => ?_)
        · show uN (L2.1 4 + 1) = n + 1
          rw [o4, u_inc (by omega), l4]
        · refine ⟨y.1, ⟨?_, ?_⟩, y.2.2⟩
          · show 0 + q2.2.2.1 + PhC q2.2.1 ≤ _
            have := y.2.1.1
            omega
          · show 0 + q2.2.2.2 + PhS q2.2.1 ≤ _
            have := y.2.1.2
            omega
      have v8 := sv.1.1
      refine Tm_suc (fun k => by rw [f_X9_add__a19__z20__z21]) ?_
      refine Tm_no (by rw [u_le (by decide) (by omega), e30]; omega) ?_
      refine Tm_ite (fun c0 => ?_) (fun c0 => ?_)
      · rw [u_le (by omega) (by decide), e00] at c0
        exact b2 _ _ K3' sf sv e5 e7 es (by omega)
      · refine Tm_ite (fun _ => b3 _ rfl) (fun c8 => ?_)
        have e88 : uN (8 : Int32) = 8 := rfl
        rw [u_eq, e88] at c8
        refine Tm_op (c_isRoomS (σ := τ) (by omega) (by have := sv.1; omega) (by rw [sf.1 1902 (by decide)]; omega) (by rw [sf.1 1913 (by decide)]; omega) sv.2.1) (fun q z => ?_)
        rw [z.1]
        refine Tm_ite (fun _ => b3 _ rfl) (fun _ => ?_)
        exact b2 _ _ K3' sf sv e5 e7 es (by omega)
  have sv0 := SV8_of mi
  refine Tm_suc (fun k => by rw [f_X9_add__a19__z20__z21]) ?_
  refine b1 30 0 _ _ K3 rfl rfl (SvF_i σ (by decide) _) (SV8_e sv0 (fun j hj => uI_o (by omega)) rfl ?_) uI_s ?_ rfl (Or.inr (Or.inl rfl))
  · rw [uI_o (by decide)]; exact Nat.le_refl _
  · rw [uI_o (by decide)]
end CUD
