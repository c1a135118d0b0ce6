/-! The house: a value is shown. -/
section DZB
variable {σ s : CS} {ρ τ ω : MS} {b : Bool} {sz j n n2 V : Nat} {XE : XEt} {L : LV} {c : Ct} {gl : List Gn} {pr : Nat → Nat} {g : Nat → Prop} {l : List Nat} {t : Nat} {h : Int32}
/-- what showing leaves -/
def SwF (σ s : CS) : Prop := ((∀ i, ¬ (i = 404 ∨ i = 1203 ∨ i = 7517 ∨ i = 7518) → s.1 i = σ.1 i) ∧ s.2.1 = σ.2.1) ∧ ((∀ k, ¬ ((5 ≤ k ∧ k ≤ 11) ∨ k = 13 ∨ k = 66 ∨ k = 67) → s.2.2.1 k = σ.2.2.1 k) ∧ (∀ k, ¬ k = 66 → sN s k = sN σ k) ∧ s.2.2.2.1 = σ.2.2.2.1) ∧ s.2.2.2.2.2 = σ.2.2.2.2.2
theorem Ph_66 (e : ∀ k, ¬ k = 66 → sN s k = sN σ k) : PhC s + pC σ 66 10400 = PhC σ + pC s 66 10400 ∧ PhS s + pS σ 66 10400 = PhS σ + pS s 66 10400 := by
  unfold PhC PhS cdC cdS
  have c : ∀ k m, ¬ k = 66 → pC s k m = pC σ k m ∧ pS s k m = pS σ k m := fun k m hk => by
    unfold pC pS
    rw [e k hk]
    exact ⟨rfl, rfl⟩
  rw [(c 3 160000 (by decide)).1, (c 1 5000 (by decide)).1, (c 2 5000 (by decide)).1, (c 20 91000 (by decide)).1, (c 21 44200 (by decide)).1, (c 22 60000 (by decide)).1, (c 26 20000 (by decide)).1, (c 41 21504 (by decide)).1, (c 42 16384 (by decide)).1, (c 43 36864 (by decide)).1, (c 51 36864 (by decide)).1]
  rw [(c 3 160000 (by decide)).2, (c 1 5000 (by decide)).2, (c 2 5000 (by decide)).2, (c 20 91000 (by decide)).2, (c 21 44200 (by decide)).2, (c 22 60000 (by decide)).2, (c 26 20000 (by decide)).2, (c 41 21504 (by decide)).2, (c 42 16384 (by decide)).2, (c 43 36864 (by decide)).2, (c 51 36864 (by decide)).2]
  rw [e 38 (by decide)]
  constructor <;> omega
theorem c_show (hq : HQ g l t σ) (hv : ∀ i, i < 27 → Gv g (σ.2.2.1 67 i)) (hb : BY False σ) (h8 : uN (σ.1 7518) ≤ 2) (hh : Gv g (L.1 1)) : Tm (fun k => f_X11_showValue k 0 L σ) (fun r => r.1.1 = 0 ∧ CoP σ r ∧ SwF σ r.2.1 ∧ (∀ i, i < 27 → Gv g (r.2.1.2.2.1 67 i)) ∧ BY False r.2.1 ∧ uN (r.2.1.1 7517) ≤ sN r.2.1 66 ∧ uN (r.2.1.1 7518) ≤ 2) := by
  have by2 : ∀ k, Bf False (f_X11_showValue k 0 L σ) := fun k => kb_f_X11_showValue k 0 L σ hb
  have main : Tm (fun k => f_X11_showValue k 0 L σ) (fun r => r.1.1 = 0 ∧ CoP σ r ∧ SwF σ r.2.1 ∧ (∀ i, i < 27 → Gv g (r.2.1.2.2.1 67 i)) ∧ uN (r.2.1.1 7517) ≤ sN r.2.1 66 ∧ uN (r.2.1.1 7518) ≤ 2) := by
    refine Tm_suc (fun k => by rw [f_X11_showValue]) ?_
    refine Tm_chk (by decide) (Tm_chk (by decide) (Tm_chk (by decide) ?_))
    show Tm (fun k => f_X11_showValue k 1 (lI L 100 (if (2 : Int32) < σ.1 7518 + 1 then (2 : Int32) else σ.1 7518 + 1)) (uA (uA σ 67 1 (σ.2.2.1 67 0)) 67 0 (L.1 1))) _
    have m8 : uN (if (2 : Int32) < σ.1 7518 + 1 then (2 : Int32) else σ.1 7518 + 1) ≤ 2 := by
      by_cases z : (2 : Int32) < σ.1 7518 + 1
      · rw [if_pos z]; decide
      · rw [if_neg z]
        have u1 : uN (σ.1 7518 + 1) = uN (σ.1 7518) + 1 := u_inc (by omega)
        have z2 : ¬ uN (2 : Int32) < uN (σ.1 7518 + 1) := fun y => z ((u_ltn (by decide) (by omega)).2 y)
        have e2 : uN (2 : Int32) = 2 := rfl
        omega
    generalize (if (2 : Int32) < σ.1 7518 + 1 then (2 : Int32) else σ.1 7518 + 1) = x8 at m8
    generalize hs1 : uA (uA σ 67 1 (σ.2.2.1 67 0)) 67 0 (L.1 1) = s1
    have f1 : s1.1 = σ.1 ∧ s1.2.1 = σ.2.1 ∧ s1.2.2.2 = σ.2.2.2 := by rw [← hs1]; exact ⟨rfl, rfl, rfl⟩
    have f2 : ∀ k, ¬ k = 67 → s1.2.2.1 k = σ.2.2.1 k := fun k hk => by rw [← hs1, uA_k hk, uA_k hk]
    have f3 : ∀ i, i < 27 → Gv g (s1.2.2.1 67 i) := fun i hi => by
      rw [← hs1, uA_r, uA_r]
      by_cases z0 : i = 0
      · rw [z0, upd_same]; exact hh
      · rw [upd_other z0]
        by_cases z1 : i = 1
        · rw [z1, upd_same]; exact hv 0 (by decide)
        · rw [upd_other z1]; exact hv i hi
    clear hs1
    have n1 : sN s1 = sN σ := by show s1.2.2.2.2.1 = _; rw [f1.2.2]
    have b1 : BYr (s1.2.2.1 66) := by rw [f2 66 (by decide)]; exact hb.2.2.1
    have hq1 : HQ g l t (uI s1 7518 x8) := by
      unfold HQ at hq ⊢
      rw [show (uI s1 7518 x8).1 1 = σ.1 1 by rw [uI_o (by decide), f1.1], show (uI s1 7518 x8).2.2.1 3 = σ.2.2.1 3 from f2 3 (by decide), show sN (uI s1 7518 x8) = sN σ from n1]
      exact hq
    refine Tm_suc (fun k => by rw [f_X11_showValue]) ?_
    have bm : BYr ((uI s1 7518 x8).2.2.1 13) := by
      show BYr (s1.2.2.1 13)
      rw [f2 13 (by decide)]; exact hb.1
    have bP : BY False (uI s1 7518 x8) := by
      unfold BY at hb ⊢
      rw [show (uI s1 7518 x8).2.2.1 13 = σ.2.2.1 13 from f2 13 (by decide), show (uI s1 7518 x8).2.2.1 22 = σ.2.2.1 22 from f2 22 (by decide), show (uI s1 7518 x8).2.2.1 66 = σ.2.2.1 66 from f2 66 (by decide), show sN (uI s1 7518 x8) = sN σ from n1, uI_o (i := 1812) (by decide), uI_o (i := 1813) (by decide), uI_o (i := 1907) (by decide), f1.1]
      exact hb
    refine Tm_oxz (Tm_Bf (c_print (L := lI lZ 1 ((lI L 100 x8).1 1)) hq1 hh) (fun k => kb_f_X6_print k 0 _ _ bP)) (fun r z => ⟨z.1.1, z.1.2.1⟩) (fun r1 z1 => ?_)
    obtain ⟨⟨a1, a2, ⟨p1, p2, p3, p4⟩, a4⟩, byr⟩ := z1
    have l13 : uN ((lI L 100 x8).1 100) ≤ 2 := m8
    generalize hs2 : uI r1.2.1 7517 (r1.2.1.1 1203) = s2
    have g1 : ∀ i, ¬ (i = 404 ∨ i = 1203 ∨ i = 7517 ∨ i = 7518) → s2.1 i = σ.1 i := fun i hi => by
      rw [← hs2, uI_o (by omega), p1 i (by omega), uI_o (by omega), f1.1]
    have g17 : uN (s2.1 7517) ≤ 10400 := by rw [← hs2, uI_s]; exact a4
    have g18 : s2.1 7518 = x8 := by
      rw [← hs2, uI_o (by decide), p1 _ (by decide), uI_s]
      rfl
    have g2 : s2.2.1 = σ.2.1 := by
      rw [← hs2]
      show r1.2.1.2.1 = _
      rw [p2]
      exact f1.2.1
    have g3 : ∀ k, ¬ ((5 ≤ k ∧ k ≤ 11) ∨ k = 13) → s2.2.2.1 k = s1.2.2.1 k := fun k hk => by
      rw [← hs2]
      exact p3 k hk
    have g4 : s2.2.2.2 = σ.2.2.2 := by
      rw [← hs2]
      show r1.2.1.2.2.2 = _
      rw [p4]
      exact f1.2.2
    have n2 : sN s2 = sN σ := by show s2.2.2.2.2.1 = _; rw [g4]
    have b13 : BYr (s2.2.2.1 13) := by rw [← hs2]; exact byr.1
    have b66 : BYr (s2.2.2.1 66) := by rw [g3 66 (by omega)]; exact b1
    have n66 : sN σ 66 ≤ 10400 := hb.2.2.2.2.1
    clear hs2
    -- behind the row's widening
    have fin : ∀ (L' : LV) (s3 : CS) (c1 c2 : Nat), s3.1 = s2.1 → s3.2.1 = s2.2.1 → (∀ k, ¬ k = 66 → s3.2.2.1 k = s2.2.2.1 k) → BYr (s3.2.2.1 66) → s3.2.2.2.1 = s2.2.2.2.1 → s3.2.2.2.2.2 = s2.2.2.2.2.2 → (∀ k, ¬ k = 66 → sN s3 k = sN s2 k) → uN (s2.1 7517) ≤ sN s3 66 → sN s3 66 ≤ 10400 → (c1 + pC s3 66 10400 ≤ pC σ 66 10400 ∧ c2 + pS s3 66 10400 ≤ pS σ 66 10400) → Tm (fun k => f_X11_showValue k 2 L' s3) (fun r => r.1.1 = 0 ∧ CoP σ (r.1, r.2.1, (c1 + r.2.2.1, c2 + r.2.2.2)) ∧ SwF σ r.2.1 ∧ (∀ i, i < 27 → Gv g (r.2.1.2.2.1 67 i)) ∧ uN (r.2.1.1 7517) ≤ sN r.2.1 66 ∧ uN (r.2.1.1 7518) ≤ 2) := fun L' s3 c1 c2 e1 e2 e3 e4 e5 e6 e7 e8 e9 e10 => by
      have u7 : s3.1 7517 = s2.1 7517 := by rw [e1]
      have cl : (s3.1 7517).toNatClampNeg = uN (s2.1 7517) := by rw [u7, u_cl (by omega)]
      have ng : ¬ s3.1 7517 < 0 := by rw [u7, u_neg]; omega
      refine Tm_suc (fun k => by rw [f_X11_showValue]) ?_
      refine Tm_chk ⟨by decide, by decide, ng, by rw [cl]; show 0 + uN (s2.1 7517) ≤ 10400; omega, by rw [cl]; show 0 + uN (s2.1 7517) ≤ sN s3 66; omega⟩ ?_
      refine Tm_chk (fun i _ => by rw [e3 13 (by decide)]; exact b13 _) ?_
      refine Tm_suc (fun k => by rw [f_X11_showValue]) ?_
      generalize hs4 : uF s3 66 (va_cpy (s3.2.2.1 13) (s3.2.2.1 66) (0 : Int32).toNatClampNeg (0 : Int32).toNatClampNeg (s3.1 7517).toNatClampNeg) = s4
      have h1 : s4.1 = s3.1 ∧ s4.2.1 = s3.2.1 ∧ s4.2.2.2 = s3.2.2.2 := by rw [← hs4]; exact ⟨rfl, rfl, rfl⟩
      have h2 : ∀ k, ¬ k = 66 → s4.2.2.1 k = s3.2.2.1 k := fun k hk => by rw [← hs4]; exact updG_other hk
      clear hs4
      have n4 : sN s4 = sN s3 := by show s4.2.2.2.2.1 = _; rw [h1.2.2]
      have ph := Ph_66 (σ := σ) (s := s4) (fun k hk => by rw [n4, e7 k hk, n2])
      have pc4 : pC s4 66 10400 = pC s3 66 10400 ∧ pS s4 66 10400 = pS s3 66 10400 := by
        unfold pC pS
        rw [n4]
        exact ⟨rfl, rfl⟩
      refine Tm_some ⟨rfl, ⟨?_, ?_⟩, ⟨⟨fun i hi => by show s4.1 i = _; rw [h1.1, e1]; exact g1 i hi, by show s4.2.1 = _; rw [h1.2.1, e2, g2]⟩, ⟨fun k hk => by show s4.2.2.1 k = _; rw [h2 k (by omega), e3 k (by omega), g3 k (by omega), f2 k (by omega)], fun k hk => by show sN s4 k = _; rw [n4, e7 k hk, n2], by show s4.2.2.2.1 = _; rw [h1.2.2, e5, g4]⟩, by show s4.2.2.2.2.2 = _; rw [h1.2.2, e6, g4]⟩, fun i hi => ?_, ?_, ?_⟩
      · show c1 + 0 + PhC s4 ≤ PhC σ
        omega
      · show c2 + 0 + PhS s4 ≤ PhS σ
        omega
      · show Gv g (s4.2.2.1 67 i)
        rw [h2 67 (by decide), e3 67 (by decide), g3 67 (by omega)]
        exact f3 i hi
      · show uN (s4.1 7517) ≤ sN s4 66
        rw [h1.1, e1, n4]
        exact e8
      · show uN (s4.1 7518) ≤ 2
        rw [h1.1, e1, g18]
        exact m8
    refine Tm_chk ⟨by decide, by decide, by rw [n2]; omega⟩ ?_
    by_cases w : nI (sN s2 66) < s2.1 7517 ∧ sN s2 66 < (10400 : Int32).toNatClampNeg
    · refine Tm_yes w ?_
      refine Tm_chk (fun i _ => b66 i) ?_
      have w2 : sN σ 66 < 10400 := by rw [← n2]; exact w.2
      refine Tm_adR ?_
      have z66 : sN (uZ s2 66 10400) 66 = 10400 := (if_pos rfl : updN (sN s2) 66 10400 66 = 10400)
      refine Tm_mono (fin _ (uZ s2 66 10400) 1 10400 rfl rfl (fun k hk => updG_other hk) ?_ rfl rfl (fun k hk => (if_neg hk : updN (sN s2) 66 10400 k = sN s2 k)) (by rw [z66]; exact g17) (by rw [z66]; exact Nat.le_refl _) ?_) (fun r z => z)
      · show BYr (updG s2.2.2.1 66 _ 66)
        rw [updG_same]
        exact BYr_z b66 _
      · unfold pC pS
        rw [z66, if_pos w2, if_pos w2, if_neg (by decide), if_neg (by decide)]
        exact ⟨by omega, by omega⟩
    · refine Tm_no w ?_
      have le : uN (s2.1 7517) ≤ sN s2 66 := by
        rcases Nat.lt_or_ge (sN s2 66) (uN (s2.1 7517)) with y | y
        · exfalso
          refine w ⟨(u_ltn (by rw [u_n (by omega)]; omega) (by omega)).2 (by rw [u_n (by omega)]; exact y), ?_⟩
          show sN s2 66 < 10400
          omega
        · exact y
      refine Tm_mono (fin _ s2 0 0 rfl rfl (fun _ _ => rfl) b66 rfl rfl (fun _ _ => rfl) le (by rw [n2]; exact n66) ?_) (fun r z => ?_)
      · unfold pC pS
        rw [n2]
        exact ⟨by omega, by omega⟩
      · obtain ⟨z1, z2, z3⟩ := z
        rw [Nat.zero_add, Nat.zero_add] at z2
        exact ⟨z1, z2, z3⟩
  exact Tm_mono (Tm_Bf main by2) (fun r z => ⟨z.1.1, z.1.2.1, z.1.2.2.1, z.1.2.2.2.1, z.2, z.1.2.2.2.2.1, z.1.2.2.2.2.2⟩)
end DZB
