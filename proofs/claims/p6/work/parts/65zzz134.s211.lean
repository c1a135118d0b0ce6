/-! Evaluation on both sides (reference): what can be reached is a heap of its own; distinct within an evaluation. -/
section HRC
variable {g : Nat → Prop} {l : List Nat} {B h t X : Nat} {σ : MS}
/-- what can be reached from the roots: good objects, and closed -/
theorem HS_rc (hM : MI t X g l B h σ) : HS (Rch (σ.2.2 28) (RoS t σ)) l B h σ := by
  obtain ⟨m1, m2, m3, m4⟩ := hM
  have hb := HS_b m1
  have gd : ∀ m, Rch (σ.2.2 28) (RoS t σ) m → g m := fun m z => Rch_good m1.2.2.2.2 hb.2 (fun v => RoS_good m1 m3) z
  obtain ⟨a1, a2, a3, a4, a5, a6⟩ := id m1
  refine ⟨a1, a2, a3, a4, a5, fun v hv => ?_⟩
  obtain ⟨q1, k, n, s, h', G1, G2, G3, G4, G5, G6, G7, G8, G9, G10, G11, G12⟩ := a6 v (gd v hv)
  refine ⟨q1, k, n, s, h', G1, G2, G3, G4, G5, G6, G7, G8, G9, G10, G11, fun hk => ⟨(G12 hk).1, fun i hi => ?_⟩⟩
  obtain ⟨m, e1, e2, e3⟩ := (G12 hk).2 i hi
  refine ⟨m, e1, ?_, e3⟩
  by_cases c : m < 3
  · exact Or.inl c
  · have k56 : k = 5 ∨ k = 6 := by omega
    exact Or.inr (Rch_s hv (by rcases k56 with y | y <;> rw [← y, G1] <;> simp) G2 G8 hi e1 (by omega) (HS_vb m1 e2))
end HRC
section EDI
variable {t u w XC n : Nat} {σ1 σ2 τ1 τ2 : MS} {g1 g2 : Nat → Prop} {l1 l2 : List Nat} {B1 h1 X1 B2 h2 X2 : Nat}
/-- the piles alone are others: what lies upon them could be reached before -/
theorem EI_pl2 (hX : EIx t w XC σ1 σ2 g1 l1 B1 h1 X1 g2 l2 B2 h2 X2) (s1 : ∀ j, j ≠ 59 → τ1.1 j = σ1.1 j) (s2 : ∀ j, j ≠ 59 → τ2.1 j = σ2.1 j) (w1 : τ1.2.1 = σ1.2.1) (w2 : τ2.2.1 = σ2.2.1) (r1 : ∀ a, ¬ (a = 29 ∨ a = 41) → τ1.2.2 a = σ1.2.2 a) (r2 : ∀ a, ¬ (a = 29 ∨ a = 41) → τ2.2.2 a = σ2.2.2 a) (u1 : τ1.1 59 = nI u) (u2 : τ2.1 59 = nI u) (p1 : ∀ i, i < u → ∃ m, τ1.2.2 29 i = nI m ∧ (m < 3 ∨ Rch (σ1.2.2 28) (RoS t σ1) m)) (p2 : ∀ i, i < u → ∃ m, τ2.2.2 29 i = nI m ∧ (m < 3 ∨ Rch (σ2.2.2 28) (RoS t σ2) m)) (pv : ∀ i, i < u → VC g1 g2 (σ1.2.2 28) (σ2.2.2 28) (τ1.2.2 29 i) (τ2.2.2 29 i)) : EI u w XC τ1 τ2 := by
  obtain ⟨m1, m2, hR, i1, i2, t1, e1, e2, y1, hw, x1, x2, ⟨ty1, ty2⟩, a, a1, a2⟩ := hX
  have rc1 : ∀ x i, RtP u τ1 x i ↔ RtP u σ1 x i := RtP_c (s1 63 (by decide)) (s1 72 (by decide)) (r1 30 (by decide)) (r1 31 (by decide))
  have rc2 : ∀ x i, RtP u τ2 x i ↔ RtP u σ2 x i := RtP_c (s2 63 (by decide)) (s2 72 (by decide)) (r2 30 (by decide)) (r2 31 (by decide))
  have q1 : RtQ τ1 := RtQ_c (s1 63 (by decide)) (s1 72 (by decide)) (r1 30 (by decide)) (r1 31 (by decide)) m1.2.1
  have q2 : RtQ τ2 := RtQ_c (s2 63 (by decide)) (s2 72 (by decide)) (r2 30 (by decide)) (r2 31 (by decide)) m2.2.1
  have n41 : ∀ {σ : MS} {x i : Nat}, RtP u σ x i → x ≠ 41 := fun z => by unfold RtP at z; omega
  have n1 : MI u X1 g1 l1 B1 h1 τ1 := MI_re m1 (s1 54 (by decide)) (s1 55 (by decide)) (r1 28 (by decide)) q1 (fun x i z => by
    have z := (rc1 x i).mp z
    have z41 := n41 z
    by_cases e : x = 29
    · subst e
      exact p1 i (by unfold RtP at z; omega)
    · rw [r1 x (by omega)]; exact MI_rt m1 ((RtP_n29 e).mp z))
  have n2 : MI u X2 g2 l2 B2 h2 τ2 := MI_re m2 (s2 54 (by decide)) (s2 55 (by decide)) (r2 28 (by decide)) q2 (fun x i z => by
    have z := (rc2 x i).mp z
    have z41 := n41 z
    by_cases e : x = 29
    · subst e
      exact p2 i (by unfold RtP at z; omega)
    · rw [r2 x (by omega)]; exact MI_rt m2 ((RtP_n29 e).mp z))
  refine ⟨g1, l1, B1, h1, X1, g2, l2, B2, h2, X2, n1, n2, ⟨fun x i z hv => ?_, fun x i hx hz hn => ?_, fun j hj => ?_, ?_⟩, IT_c (s1 72 (by decide)) (r1 34 (by decide)) (r1 35 (by decide)) (r1 28 (by decide)) i1, IT_c (s2 72 (by decide)) (r2 34 (by decide)) (r2 35 (by decide)) (r2 28 (by decide)) i2, u1, (s1 56 (by decide)).trans e1, (s2 56 (by decide)).trans e2, (s1 57 (by decide)).trans y1, hw, x1, x2, ⟨by rw [r1 2 (by decide)]; exact ty1, by rw [r1 2 (by decide), r2 2 (by decide)]; exact ty2⟩, a, (s1 95 (by decide)).trans a1, a2⟩
  · have z := (rc1 x i).mp z
    have z41 := n41 z
    rw [r1 28 (by decide), r2 28 (by decide)]
    by_cases e : x = 29
    · subst e
      exact pv i (by unfold RtP at z; omega)
    · rw [r1 x (by omega), r2 x (by omega)]; exact hR.1 x i ((RtP_n29 e).mp z) hv
  · have e : ¬ (x = 29 ∨ x = 41) := by unfold AlR at hx; omega
    rw [r1 x e, r2 x e]; exact hR.2.1 x i hx hz (fun z => hn ((InA_c (σ := σ1) (ρ := τ1) (s1 63 (by decide)) (s1 72 (by decide)) (s1 22 (by decide)) (s1 24 (by decide)) (s1 30 (by decide)) (s1 44 (by decide)) (fun u _ => by rw [r1 21 (by decide)]) (fun j _ => by rw [r1 30 (by decide)]) (fun p _ j _ => by rw [r1 31 (by decide)]) x i).mpr z))
  · by_cases e : j = 59
    · rw [e, u1, u2]
    · rw [s1 j e, s2 j e]; exact hR.2.2.1 j hj
  · rw [w1, w2]; exact hR.2.2.2
theorem FE_sf {f : Nat} {σ τ : MS} (s : SF f σ τ) : FE σ τ := ⟨fun j _ _ h _ => s.1 j h, fun a i h _ _ => by rw [s.2.1 a (by unfold AlR at h; omega)], s.2.1 2 (by decide), KPn_same (s.2.1 28 (by decide)) (fun a h => s.2.1 a (by omega))⟩
/-- what lies above t upon the piles, without those that are equal -/
theorem E_dis (hE : EI (t + n) w XC σ1 σ2) (hn : n ≤ 60100) (ht : t + n ≤ 185000) {L : Nat → Int32} (d1 : L 1 = nI t) : T2 (fun k => x_distinct k 0 L σ1) (fun k => x_distinct k 0 L σ2) (fun r1 r2 => FE σ1 r1.2 ∧ FE σ2 r2.2 ∧ ∃ v, v ≤ n ∧ EI (t + v) w XC r1.2 r2.2) := by
  obtain ⟨g1, l1, B1, h1, X1, g2, l2, B2, h2, X2, hX⟩ := hE
  have m1 := hX.1
  have m2 := hX.2.1
  have hR := hX.2.2.1
  have t1 := hX.2.2.2.2.2.1
  have t2 : σ2.1 59 = nI (t + n) := (hR.2.2.1 59 (by unfold AlS; omega)).symm.trans t1
  have pl : PlE g1 g2 σ1 σ2 t n := fun i hi => hR.1 29 (t + i) (Or.inl ⟨rfl, by omega⟩) (by unfold VwR; omega)
  refine T2_mono (T2_of (s_distinct (HS_rc m1) (fun i hi => MI_rt m1 (Or.inl ⟨rfl, by omega⟩)) t1 ht hn d1) (s_distinct (HS_rc m2) (fun i hi => MI_rt m2 (Or.inl ⟨rfl, by omega⟩)) t2 ht hn d1) (fun n' => Pm_wl (fun k => wl_distinct k _ _ _) (fun k => wl_distinct k _ _ _) (k_distinct m1.1 m2.1 t1 t2 hn ht pl d1))) (fun r1 r2 hr => ?_)
  obtain ⟨⟨⟨v, hv, sf1, sf2, p1, p2, pv⟩, wl1, wl2⟩, ⟨v1, hv1, _, q1, pl1⟩, ⟨v2, hv2, _, q2, pl2⟩⟩ := hr
  have ev1 : v1 = v := by
    have := (n_eq (by omega) (by omega)).mp (q1.symm.trans p1)
    omega
  have ev2 : v2 = v := by
    have := (n_eq (by omega) (by omega)).mp (q2.symm.trans p2)
    omega
  subst ev1
  subst ev2
  refine ⟨FE_sf sf1, FE_sf sf2, v2, hv, EI_pl2 hX sf1.1 sf2.1 wl1 wl2 sf1.2.1 sf2.2.1 p1 p2 (fun i hi => ?_) (fun i hi => ?_) (fun i hi => ?_)⟩
  · by_cases c : i < t
    · rw [sf1.2.2 i c]; exact MI_rt m1 (Or.inl ⟨rfl, by omega⟩)
    · have := pl1 (i - t) (by omega)
      rw [show t + (i - t) = i by omega] at this
      exact this
  · by_cases c : i < t
    · rw [sf2.2.2 i c]; exact MI_rt m2 (Or.inl ⟨rfl, by omega⟩)
    · have := pl2 (i - t) (by omega)
      rw [show t + (i - t) = i by omega] at this
      exact this
  · by_cases c : i < t
    · rw [sf1.2.2 i c, sf2.2.2 i c]; exact hR.1 29 i (Or.inl ⟨rfl, by omega⟩) (by unfold VwR; omega)
    · have := pv (i - t) (by omega)
      rw [show t + (i - t) = i by omega] at this
      exact this
/-- the same with an error -/
theorem Z_dis {b : Nat} {σ : MS} (hZ : EZ t b σ) (hb : b ≤ 185000) (h59 : σ.1 59 = nI (t + n)) (hn : n ≤ 60100) {L : Nat → Int32} (d1 : L 1 = nI t) : Tm (fun k => x_distinct k 0 L σ) (fun r => FE σ r.2 ∧ ∃ v, v ≤ n ∧ r.2.1 59 = nI (t + v) ∧ EZ t b r.2) := by
  obtain ⟨g, l, B, h, t', m, c1, c2, c3, c4, c5, c6, c7⟩ := hZ
  have et : t' = t + n := (n_eq (by omega) (by omega)).mp (c1.symm.trans h59)
  subst et
  refine Tm_mono (s_distinct m.1 (fun i hi => m.2.2.1 29 (t + i) (Or.inl ⟨rfl, by omega⟩)) c1 (by omega) hn d1) (fun r hr => ?_)
  obtain ⟨v, hv, sf, q1, pl⟩ := hr
  have rc : ∀ x i, RtP (t + v) r.2 x i ↔ RtP (t + v) σ x i := RtP_c (sf.1 63 (by decide)) (sf.1 72 (by decide)) (sf.2.1 30 (by decide)) (sf.2.1 31 (by decide))
  have e56 : r.2.1 56 = σ.1 56 := sf.1 56 (by decide)
  refine ⟨FE_sf sf, v, hv, q1, g, l, B, h, t + v, MI_any (SF_HS sf m.1) (RtQ_c (sf.1 63 (by decide)) (sf.1 72 (by decide)) (sf.2.1 30 (by decide)) (sf.2.1 31 (by decide)) m.2.1) (fun x i z => ?_), q1, by omega, by omega, by rw [e56]; exact c4, ErB_c e56 c5, by rw [sf.1 57 (by decide)]; exact c6, by rw [sf.1 95 (by decide)]; exact c7⟩
  have z := (rc x i).mp z
  have z41 : x ≠ 41 := by unfold RtP at z; omega
  by_cases e : x = 29
  · subst e
    have hi : i < t + v := by unfold RtP at z; omega
    by_cases c : i < t
    · rw [sf.2.2 i c]; exact m.2.2.1 29 i (Or.inl ⟨rfl, by omega⟩)
    · have := pl (i - t) (by omega)
      rw [show t + (i - t) = i by omega] at this
      exact this
  · rw [sf.2.1 x (by omega)]; exact m.2.2.1 x i ((RtP_n29 e).mp z)
end EDI
