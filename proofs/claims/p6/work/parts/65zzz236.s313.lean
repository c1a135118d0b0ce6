/-! Targets of a tuple, as the grammar lays them. -/
section TPL
variable {T : Nat → Int32} {n : Nat} {FN : Nat → Nat → Prop} {GF : Nat → Prop} {E : En}
theorem Frm_lnk {un vv i e x : Nat} {b : BT} : Frm un vv b e (bLnk i e x b) := by
  unfold bLnk
  by_cases c : i = 0
  · rw [if_pos c]; exact Frm_rf
  · rw [if_neg c]; exact Frm_set9
/-- a target of a tuple, or none -/
def HoP (FN : Nat → Nat → Prop) (GF : Nat → Prop) (un vv lo : Nat) (b : BT) (e kk : Nat) : Prop := 1 ≤ lo ∧ lo ≤ e ∧ e < b.1 ∧ b.2.2.1 9 e = -1 ∧ ∀ T', Agr T' un vv b lo e → (∀ s, GF s → ¬ T' 20 s = 0) → (1 ≤ e ∧ e < LNo T' % 70001) ∧ ((T' 4 e = 32 ∧ kk = 0) ∨ (¬ T' 4 e = 32 ∧ ∃ k ch s, e = ch k ∧ Tgt T' FN (lcU un T') k ch ∧ NmW T' (lcU un T') (cnU un T') (ch 0) s ∧ kys T' ch k = kk))
theorem gHo_t {f o q v : Nat} {b : BT} {r : RT} (hT : ∀ i, i < n → ∃ d, d ≤ 300 ∧ T i = nI d) (hq : q ≤ n) (hv : v ≤ 60) (ho : o ≤ 20) (hbn : b.1 + n < 70000 + q) (hbp : b.2.1 + n ≤ 70000 + q) (hb1 : 1 ≤ b.1) (hE : EnOK FN E) (hN : NmC E.2.2.2.1 v b GF E) (hG : gHo T n f E o q v b = some (some r)) : ∃ kk, Frm E.2.2.2.1 v b 0 r.2.2.2.2.1 ∧ HoP FN GF E.2.2.2.1 r.2.1 b.1 r.2.2.2.2.1 r.2.2.2.1 kk ∧ 2 * kk + q + 1 ≤ r.1 := by
  unfold gHo at hG
  by_cases c : tkK T n q = 3
  · rw [if_pos c] at hG
    obtain ⟨t1, hG⟩ := gT_s hG
    have u := tkN_b T n q hq
    have u4 := u.2.2.2 (by rw [c]; decide)
    cases hG
    refine ⟨0, Frm_node, ⟨hb1, Nat.le_refl _, Nat.lt_succ_self _, nd_t.2.2.2.2.2, fun T' hA hGF => ?_⟩, by show 2 * 0 + q + 1 ≤ tkN T n q; omega⟩
    obtain ⟨n4, _⟩ := nd_at hA (Nat.le_refl _)
    exact ⟨⟨hb1, hA.2.2.2.1⟩, Or.inl ⟨n4, rfl⟩⟩
  · rw [if_neg c] at hG
    obtain ⟨kk, k1, k2, k3⟩ := gTg_t hT hq hv ho hbn hbp hb1 hE hN hG
    obtain ⟨l1, l2, l3, l4, l5⟩ := k2
    refine ⟨kk, k1, ⟨l1, l2, l3, l4, fun T' hA hGF => ?_⟩, k3⟩
    obtain ⟨k, ch, s, c1, c2, c3, c4⟩ := l5 T' hA hGF
    have bb := c2.1 k (Nat.le_refl _)
    refine ⟨by rw [c1]; exact bb, Or.inr ⟨?_, k, ch, s, c1, c2, c3, c4⟩⟩
    rw [c1]
    cases k with
    | zero => rw [c2.2.1.1]; decide
    | succ k => rcases (c2.2.2 k (Nat.lt_succ_self _)).2.2.1 with z | z | z <;> (rw [z]; decide)
/-- the targets: m of them, K keys, the first x0 -/
theorem gpt_t (hT : ∀ i, i < n → ∃ d, d ≤ 300 ∧ T i = nI d) (hE : EnOK FN E) : ∀ (f o q v i e : Nat) (b : BT) (r : RT), q ≤ n → v ≤ 60 → o ≤ 20 → b.1 + n < 70000 + q → b.2.1 + n ≤ 70000 + q → 1 ≤ b.1 → e < b.1 → (i = 0 ∨ 1 ≤ e) → NmC E.2.2.2.1 v b GF E → GPt T n E f o q v i e b = some (some r) → ∃ m K x0, (b.1 ≤ x0 ∧ x0 < r.2.2.2.2.1.1) ∧ Frm E.2.2.2.1 v b e r.2.2.2.2.1 ∧ v ≤ r.2.1 ∧ r.2.2.2.1 = fst2 i x0 ∧ 2 * K + 2 * m + q ≤ r.1 + 1 ∧ (¬ i = 0 → r.2.2.2.2.1.2.2.1 9 e = nI x0) ∧ ∀ T', Agr T' E.2.2.2.1 r.2.1 r.2.2.2.2.1 b.1 0 → (∀ s, GF s → ¬ T' 20 s = 0) → TgL T' FN (lcU E.2.2.2.1 T') (cnU E.2.2.2.1 T') m K (nI x0) := by
  intro f
  induction f with
  | zero => intro o q v i e b r _ _ _ _ _ _ _ _ _ hG; exact absurd hG (by unfold GPt; intro h; cases h)
  | succ f ih =>
    intro o q v i e b r hq hv ho hbn hbp hb1 heb hie hN hG
    unfold GPt at hG
    obtain ⟨s, g1, hG⟩ := gb_s hG
    obtain ⟨a1, a2, a3, a4, a5, a6, a7, a8⟩ := (gHo_mo (M := 1) hq hv (by omega) (Nat.le_refl 1) g1).1
    obtain ⟨kk, hF, hH, hk⟩ := gHo_t (GF := GF) hT hq hv ho hbn hbp hb1 hE hN g1
    obtain ⟨p1, p2, p3, p4, p5⟩ := hH
    have lk : (bLnk i e s.2.2.2.1 s.2.2.2.2.1).1 = s.2.2.2.2.1.1 := bLnk_1
    have lp : (bLnk i e s.2.2.2.1 s.2.2.2.2.1).2.1 = s.2.2.2.2.1.2.1 := bLnk_p
    have F1 : Frm E.2.2.2.1 v b e (bLnk i e s.2.2.2.1 s.2.2.2.2.1) := Frm_tr (Frm_wk hF) (Frm_lnk (vv := s.2.1)) a3 (Or.inl rfl)
    have b9 : ¬ i = 0 → (bLnk i e s.2.2.2.1 s.2.2.2.2.1).2.2.1 9 e = nI s.2.2.2.1 := fun z => by
      unfold bLnk
      rw [if_neg z, bSet_s]
    have b9' : (bLnk i e s.2.2.2.1 s.2.2.2.2.1).2.2.1 9 s.2.2.2.1 = -1 := by
      unfold bLnk
      by_cases z : i = 0
      · rw [if_pos z]; exact p4
      · rw [if_neg z, bSet_o (by omega)]; exact p4
    by_cases k12 : tkK T n s.1 = 12
    · rw [if_pos k12] at hG
      obtain ⟨t1, hG⟩ := gT_s hG
      have u := tkN_b T n s.1 a2
      have u4 := u.2.2.2 (by rw [k12]; decide)
      have hi2 : ¬ fst2 i s.2.2.2.1 = 0 := by
        unfold fst2
        by_cases z : i = 0
        · rw [if_pos z]; omega
        · rw [if_neg z]; exact z
      obtain ⟨m, K, x0, r1, r2, r3, r4, r5, r6, r7⟩ := ih o (tkN T n s.1) s.2.1 (fst2 i s.2.2.2.1) s.2.2.2.1 (bLnk i e s.2.2.2.1 s.2.2.2.2.1) r u.2.1 (by omega) ho (by rw [lk]; omega) (by rw [lp]; omega) (by rw [lk]; omega) (by rw [lk]; exact p3) (Or.inr (by omega)) (NmC_fr (NmC_fr hN hF a3) (Frm_lnk (vv := s.2.1)) (Nat.le_refl _)) hG
      rw [lk] at r1
      have r6 := r6 hi2
      have lr : s.2.2.2.2.1.1 ≤ r.2.2.2.2.1.1 := by have := r2.1; rw [lk] at this; exact this
      refine ⟨m + 1, kk + K, s.2.2.2.1, ⟨p2, by omega⟩, Frm_tr F1 r2 a3 (Or.inr (Or.inl p2)), by omega, ?_, by omega, fun z => ?_, fun T' hA hGF => ?_⟩
      · rw [r4]
        unfold fst2
        by_cases z : i = 0
        · simp only [if_pos z]; rw [if_neg (by omega)]
        · simp only [if_neg z]
      · rw [r2.2.2.1 9 e (by rw [lk]; omega) (by omega)]; exact b9 z
      · have hA1 : Agr T' E.2.2.2.1 s.2.1 (bLnk i e s.2.2.2.1 s.2.2.2.2.1) b.1 s.2.2.2.1 := Agr_g hA r2 r3 hb1 (Nat.le_refl _) (Or.inr rfl) (Or.inr (Or.inr rfl))
        have hA2 : Agr T' E.2.2.2.1 s.2.1 s.2.2.2.2.1 b.1 s.2.2.2.1 := Agr_g hA1 (Frm_lnk (vv := s.2.1)) (Nat.le_refl _) hb1 (Nat.le_refl _) (Or.inl heb) (Or.inl rfl)
        obtain ⟨q1, q2⟩ := p5 T' hA2 hGF
        have h9 : T' 9 s.2.2.2.1 = nI x0 := (hA.1 9 s.2.2.2.1 (by decide) (by decide) p2 (by omega) (by omega)).trans r6
        have hL := r7 T' (Agr_g hA Frm_rf (Nat.le_refl _) hb1 (by rw [lk]; omega) (Or.inl (by rw [lk]; omega : (0 : Nat) < _)) (Or.inl rfl)) hGF
        refine ⟨s.2.2.2.1, rfl, q1, ?_⟩
        rcases q2 with ⟨y1, y2⟩ | ⟨y1, k, ch, w, y2, y3, y4, y5⟩
        · refine Or.inl ⟨y1, ?_⟩
          rw [h9, y2, Nat.zero_add]; exact hL
        · exact Or.inr ⟨y1, k, ch, w, K, y2, y3, y4, by rw [y5], by rw [h9]; exact hL⟩
    · rw [if_neg k12] at hG
      cases hG
      refine ⟨1, kk, s.2.2.2.1, ⟨p2, by show _ < (bLnk i e s.2.2.2.1 s.2.2.2.2.1).1; rw [lk]; exact p3⟩, F1, a3, rfl, by show 2 * kk + 2 * 1 + q ≤ s.1 + 1; omega, b9, fun T' hA hGF => ?_⟩
      have hA2 : Agr T' E.2.2.2.1 s.2.1 s.2.2.2.2.1 b.1 s.2.2.2.1 := Agr_g hA (Frm_lnk (vv := s.2.1)) (Nat.le_refl _) hb1 (Nat.le_refl _) (Or.inl heb) (Or.inr (Or.inr rfl))
      obtain ⟨q1, q2⟩ := p5 T' hA2 hGF
      have h9 : T' 9 s.2.2.2.1 = -1 := (hA.1 9 s.2.2.2.1 (by decide) (by decide) p2 (by show _ < (bLnk i e s.2.2.2.1 s.2.2.2.2.1).1; rw [lk]; exact p3) (by omega)).trans b9'
      refine ⟨s.2.2.2.1, rfl, q1, ?_⟩
      rcases q2 with ⟨y1, y2⟩ | ⟨y1, k, ch, w, y2, y3, y4, y5⟩
      · exact Or.inl ⟨y1, h9, y2⟩
      · exact Or.inr ⟨y1, k, ch, w, 0, y2, y3, y4, by rw [y5, Nat.add_zero], h9, rfl⟩
end TPL
