/-! A program that was read stands in the tables (reference). -/
/-- the same program, read over other rows of statements -/
def SmP (g : PRG) (t : ST) (g' : PRG) (t' : ST) : Prop := (g'.2.1 = g.2.1 ∧ g'.2.2.1 = g.2.2.1 ∧ g'.2.2.2.1 = g.2.2.2.1 ∧ g'.2.2.2.2.1 = g.2.2.2.2.1 ∧ g'.2.2.2.2.2.2.2.2 = g.2.2.2.2.2.2.2.2) ∧ (t'.2.1 = t.2.1 ∧ t'.2.2.2.1 = t.2.2.2.1 ∧ t'.2.2.2.2.1 = t.2.2.2.2.1) ∧ t'.2.2.2.2.2.1 = t.2.2.2.2.2.1 ∧ ∀ i, i < t.2.2.2.2.2.1 → t'.2.2.2.2.2.2.1 i = t.2.2.2.2.2.2.1 i ∧ t'.2.2.2.2.2.2.2 i = t.2.2.2.2.2.2.2 i
theorem SmP_rf {g : PRG} {t : ST} : SmP g t g t := ⟨⟨rfl, rfl, rfl, rfl, rfl⟩, ⟨rfl, rfl, rfl⟩, rfl, fun _ _ => ⟨rfl, rfl⟩⟩
/-- read again -/
theorem SmP_of {T T' : Nat → Int32} {n : Nat} {u u' p p' : Nat → Int32} {g g' : PRG} {t t' : ST} (hT : ∀ i, i < n → T' i = T i) (h : gPrg T n (g0 T n u p) = some (some (g, t))) (h' : gPrg T' n (g0 T' n u' p') = some (some (g', t'))) : SmP g t g' t' := by
  have e : gPrg T' n (g0 T' n u' p') = gPrg T n (g0 T n u' p') := by
    have es : sk T' n 0 = sk T n 0 := congrFun (sk_c (T := T') (T' := T) (fun i hi => hT i hi)) 0
    have eg : g0 T' n u' p' = g0 T n u' p' := by unfold g0; rw [es]
    rw [eg, gPrg_c (T := T') (T' := T) (fun i hi => hT i hi)]
  rw [e] at h'
  have z : Zp (fun _ => False) (fun _ => False) 0 ((0, u, p) : SB) (0, u', p') := ⟨rfl, Nat.le_refl _, fun i hi => by
    rcases hi with y | y
    · exact y.elim
    · exact absurd y.2 (Nat.not_lt_zero _), fun i hi => by
    rcases hi with y | y
    · exact y.elim
    · exact absurd y.2 (Nat.not_lt_zero _)⟩
  have R := gPrg_z (T := T) (n := n) (q := sk T n 0) (E := ([], [], [], 0, true, true, fun _ => 0)) (MD := fun _ _ => 0) (c := 0) (pc := 0) (v := 0) (b := (1, 0, fun _ _ => 0, fun _ => 0, fun _ => 0)) (F := fun _ => 0) z
  have h : gPrg T n (sk T n 0, ([], [], [], 0, true, true, fun _ => 0), fun _ _ => 0, 0, 0, 0, (1, 0, fun _ _ => 0, fun _ => 0, fun _ => 0), (0, u, p), fun _ => 0) = some (some (g, t)) := h
  have h' : gPrg T n (sk T n 0, ([], [], [], 0, true, true, fun _ => 0), fun _ _ => 0, 0, 0, 0, (1, 0, fun _ _ => 0, fun _ => 0, fun _ => 0), (0, u', p'), fun _ => 0) = some (some (g', t')) := h'
  rw [h, h'] at R
  rcases R with ⟨z, _⟩ | ⟨z, _⟩ | ⟨a, a', z1, z2, ⟨k1, k2⟩⟩
  · cases z
  · cases z
  · cases z1
    cases z2
    obtain ⟨q1, E1, M1, c1, pc1, v1, b1, s1, s1', F1, e1, e2, _⟩ := k1
    obtain ⟨q2, v2, k2', e3, b2, s2, s2', e4, e5, z3⟩ := k2
    have e1 : g = _ := e1
    have e2 : g' = _ := e2
    have e4 : t = _ := e4
    have e5 : t' = _ := e5
    subst e1 e2 e4 e5
    exact ⟨⟨rfl, rfl, rfl, rfl, rfl⟩, ⟨rfl, rfl, rfl⟩, z3.1.symm, fun i hi => ⟨(z3.2.2.1 i (Or.inr ⟨Nat.zero_le _, hi⟩)).symm, (z3.2.2.2 i (Or.inr ⟨Nat.zero_le _, hi⟩)).symm⟩⟩
section PRB
variable {T : Nat → Int32} {n : Nat} {g g' : PRG} {t t' : ST} {KB : Nat} {S : Nat → Nat → Nat → Nat → Prop} {σ : MS}
theorem PR_bz (hR : PR T n g' t' σ) (hs : SmP g t g' t') (ok : PgO g t KB S) : Bz (TPg g t KB) (FNg g) σ ∧ PG g.2.1.1 g.2.1.2.2.2.2.2.2 t.2.2.2.2.1 σ ∧ σ.1 110 = hd t.2.2.2.1 ∧ σ.1 44 = nI t.2.2.2.2.2.1 ∧ (σ.1 31 = nI g.2.2.2.2.1 ∧ g.2.2.2.2.1 ≤ g.2.2.2.1) := by
  obtain ⟨⟨e1, e2, e3, e31, e4⟩, ⟨e5, e6, e7⟩, e8, e9⟩ := hs
  obtain ⟨⟨hPS, hPM, _, h44, h400, h10⟩, h110, ⟨h30, h40, h31, hpc⟩, ⟨_, _, hu⟩, hk, h17, hA⟩ := hR
  rw [e1, e5, e7] at hPS
  rw [e1] at hu
  rw [e3] at h30 h40
  rw [e3, e1, e2, e4] at h17
  rw [e6] at h110
  rw [e8] at h44
  rw [e31] at h31
  rw [e31, e3] at hpc
  obtain ⟨⟨pt1, pt2, pt3, _⟩, _, hB, hV, hN, hF⟩ := hPS
  obtain ⟨hI, h0, hFN, ⟨c40, s400⟩, hE, hH⟩ := ok
  obtain ⟨_, ⟨_, v6⟩, ⟨l1, l2, l3, l4, l5⟩, _⟩ := hI
  have TC := TPg_c (g := g) (t := t) (KB := KB) (by omega)
  have TS := TPg_s (g := g) (t := t) (KB := KB) (by omega)
  rw [hu] at hV
  obtain ⟨_, _, v21, _, v20⟩ := hV
  have r18 : ∀ i, i < g.2.2.2.1 → σ.2.2 18 i = nI (g.2.1.2.2.2.2.2.2 i) := fun i hi => by
    obtain ⟨x, x1, x2, x3⟩ := hE.2 i hi
    have := (hF.2.2 x x1 x2).2.1
    rw [x3] at this; exact this
  have n30 : (σ.1 30).toNatClampNeg = g.2.2.2.1 := by rw [h30, n_cl (p := g.2.2.2.1) (by omega)]
  refine ⟨⟨⟨fun a i h4 h11 hi => ?_, fun fn m hm => ?_, fun i hi => ?_, ?_, ?_, ?_, ?_⟩, fun a i h17a h21a hi => ?_, fun i => ?_⟩, ⟨pt3, hB, hN.2.2, hF.2.2⟩, h110, h44, h31, hpc⟩
  · by_cases c9 : a ≤ 9
    · have := hi.1 c9
      rw [TPg_n c9, hB.2.2.2.1 a h4 c9 i this.1 (by omega)]
    · have hl := hi.2 (by omega)
      rw [TS] at hl
      have : a = 10 ∨ a = 11 := by omega
      rcases this with rfl | rfl
      · rw [TPg_10, (h10 i).1]; exact (e9 i hl).1
      · rw [TPg_11, (h10 i).2]; exact (e9 i hl).2
  · obtain ⟨y1, y2, F, e, y3, y4, y5⟩ := hFN fn m hm
    obtain ⟨x, hx, x2, rfl, rfl⟩ := hm
    exact ⟨by rw [TC]; exact y1, by omega, r18 _ y1, F, e, (h17 _ y1).1.trans y3, by rw [l1]; exact y4, y5⟩
  · rw [TPg_12]; exact hB.2.2.2.2 i (by omega)
  · rw [l1]; exact hB.1
  · rw [l2]; exact hB.2.2.1
  · rw [TC]; exact h30
  · rw [TS]; exact h44
  · rw [TC] at hi
    have : a = 17 ∨ a = 18 ∨ a = 19 ∨ a = 21 := by omega
    rcases this with rfl | rfl | rfl | rfl
    · exact (h17 i (hi.2.1 (by decide))).1
    · exact r18 i (hi.2.1 (by decide))
    · obtain ⟨i1, i2⟩ := hi.2.2.1 rfl
      have il : i / 8 < g.2.2.2.1 := by omega
      obtain ⟨q1, q2⟩ := (h17 (i / 8) il).2.2
      rw [TPg_18, n_cl (p := g.2.1.2.2.2.2.2.2 (i / 8)) (by omega)] at i2
      have := (q2 (i % 8) i2).1
      rw [show 8 * (i / 8) + i % 8 = i by omega] at this
      exact this
    · have i1 := hi.2.2.2 rfl
      by_cases e0 : i = 0
      · subst e0; exact v21
      · obtain ⟨j, rfl⟩ : ∃ j, i = 1 + j := ⟨i - 1, by omega⟩
        obtain ⟨h, q1, q2, q3, q4⟩ := (h17 j (by omega)).2.1
        rw [TPg_21, q3, q2]
  · show kC σ i = fgP g t i
    by_cases c0 : i < 60
    · unfold fgP
      rw [if_pos c0]
      by_cases c1 : i < t.2.1
      · rw [if_pos c1]
        have := kC_in (σ := σ) (u := 0) (s := i) c0 (by rw [v21, n_cl (p := t.2.1) (by omega)]; exact c1) (Nat.zero_le _)
        rw [Nat.mul_zero, Nat.zero_add] at this
        rw [this]
        have := v20 i c1
        rw [Nat.mul_zero, Nat.zero_add] at this; exact this
      · rw [if_neg c1]
        have := kC_out (σ := σ) (u := 0) (s := i) (by decide) c0 (by rw [v21, n_cl (p := t.2.1) (by omega)]; omega)
        rw [Nat.mul_zero, Nat.zero_add] at this
        exact this
    · by_cases c2 : i < 60 * (1 + g.2.2.2.1)
      · obtain ⟨j, w, hj, hw, rfl⟩ : ∃ j w, j < g.2.2.2.1 ∧ w < 60 ∧ i = 60 * (1 + j) + w := ⟨i / 60 - 1, i % 60, by omega, by omega, by omega⟩
        obtain ⟨h, q1, q2, q3, q4⟩ := (h17 j hj).2.1
        rw [fgP_u hj q2 q1 hw]
        by_cases c3 : w < h
        · rw [if_pos c3, kC_in (σ := σ) (u := 1 + j) hw (by rw [q3, n_cl (p := h) (by omega)]; exact c3) (by rw [n30]; omega) (by omega)]
          exact q4 w c3
        · rw [if_neg c3]
          exact kC_out (σ := σ) (u := 1 + j) (by omega) hw (by rw [q3, n_cl (p := h) (by omega)]; omega)
      · unfold fgP
        rw [if_neg c0, if_neg (fun z => c2 z.1)]
        unfold kC
        by_cases c4 : 2520 ≤ i
        · rw [if_pos (Or.inl c4)]
        · rw [if_pos (Or.inr ?_)]
          unfold hdU
          rw [n30, if_neg (by omega)]; omega
end PRB
