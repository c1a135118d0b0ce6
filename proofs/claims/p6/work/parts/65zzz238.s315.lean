/-! Simple statements, as the grammar lays them: tuples of targets, from. -/
section SL2
variable {T : Nat → Int32} {n : Nat} {FN : Nat → Nat → Prop} {GF : Nat → Prop} {E : En} {v lo : Nat} {b : BT}
/-- a tuple of targets -/
theorem gPa_t {f o q : Nat} {r : RT} (hn : n ≤ 32768) (hT : ∀ i, i < n → ∃ d, d ≤ 300 ∧ T i = nI d) (hq : q ≤ n) (hv : v ≤ 60) (ho : o ≤ 20) (hbn : b.1 + n < 70000 + q) (hbp : b.2.1 + n ≤ 70000 + q) (hb1 : 1 ≤ b.1) (hE : EnOK FN E) (hN : NmC E.2.2.2.1 v b GF E) (hG : gPa T n f E o q v b = some (some r)) : ∃ kk, Frm E.2.2.2.1 v b 0 r.2.2.2.2.1 ∧ SLd GF E.2.2.2.1 r.2.1 b.1 r.2.2.2.2.1 r.2.2.2.1 (QPt FN E.2.2.2.1 r.2.2.2.1 kk) ∧ 2 * kk + q < r.1 := by
  unfold gPa at hG
  obtain ⟨o2, hG⟩ := gO_s hG
  obtain ⟨t1, hG⟩ := gT_s hG
  have u1 := tkN_b T n q hq
  obtain ⟨p, g1, hG⟩ := gb_s hG
  obtain ⟨⟨a1, a2, a3, a4, a5, a6, a7, a8⟩, _, d3⟩ := gpt_mo f (o + 1) (tkN T n q) v 0 0 b p 1 u1.2.1 hv g1 hb1 (Nat.le_refl 1) (fun z => absurd rfl z)
  obtain ⟨m, K, x0, q1, q2, q3, q4, q5, q6, q7⟩ := gpt_t (GF := GF) hT hE f (o + 1) (tkN T n q) v 0 0 b p u1.2.1 hv (by omega) (by omega) (by omega) hb1 (by omega) (Or.inl rfl) hN g1
  obtain ⟨w2, t2, hG⟩ := gW_s hG
  have u2 := tkN_b T n p.1 a2
  have u2' := u2.2.2.2 (by rw [w2]; decide)
  obtain ⟨w3, t3, hG⟩ := gW_s hG
  have u3 := tkN_b T n _ u2.2.1
  obtain ⟨s, g4, hG⟩ := gb_s hG
  obtain ⟨⟨c1, c2, c3, c4, c5, c6, c7, c8⟩, hF, hP, hlt, hi⟩ := ex_of (GF := GF) hT u3.2.1 (by omega) ho (by omega) (by omega) (by omega) hE (NmC_fr hN q2 q3) g4
  obtain ⟨w5, t5, hG⟩ := gW_s hG
  have u5 := tkN_b T n s.1 c2
  have p1 := hP.2.1
  have p2 := hP.2.2.1
  have q4 : p.2.2.2.1 = x0 := q4
  have e1 := q2.1
  cases hG
  refine ⟨K, Frm_tr (Frm_tr q2 hF q3 (Or.inl rfl)) (Frm_node (vv := s.2.1)) (by omega) (Or.inl rfl), SLd_nd hb1 (by omega) (fun T' hA hlt' hGF n4 n5 n6 n7 => ?_), by show 2 * K + q < tkN T n s.1; omega⟩
  refine ⟨n4, m, by omega, ?_, ?_⟩
  · show TgL T' FN _ _ m K (T' 5 s.2.2.2.2.1.1)
    rw [n5, q4]
    exact q7 T' (Agr_g (hA 0) hF c3 hb1 (Nat.le_refl _) (Or.inl (by omega)) (Or.inl rfl)) hGF
  · show Wx0 T' FN _ (T' 6 s.2.2.2.2.1.1)
    rw [n6]
    exact Wx_of (by omega) (by omega) (by decide) (hP.2.2.2.2 T' (Agr_g (hA s.2.2.2.1) Frm_rf (Nat.le_refl _) hb1 (by omega) (Or.inl (by omega : (0 : Nat) < p.2.2.2.2.1.1)) (Or.inl rfl)))
/-- from: behind the first target -/
theorem gFr_t {f o q e kk : Nat} {r : RT} {x : Int32} (hT : ∀ i, i < n → ∃ d, d ≤ 300 ∧ T i = nI d) (hq : q ≤ n) (hv : v ≤ 60) (ho : o ≤ 20) (hbn : b.1 + n < 70000 + q) (hbp : b.2.1 + n ≤ 70000 + q) (hb1 : 1 ≤ b.1) (hE : EnOK FN E) (hN : NmC E.2.2.2.1 v b GF E) (hL : LTt FN GF E.2.2.2.1 v lo b e kk) (hG : gb (gTg T n f E o q v b) (fun s => gW T n 13 s.1 (fun q2 => some (some (q2, s.2.1, 0, s.2.2.2.2.1.1, bNode s.2.2.2.2.1 43 (nI e) (nI s.2.2.2.1) x, [])))) = some (some r)) : ∃ kb, Frm E.2.2.2.1 v b 0 r.2.2.2.2.1 ∧ SLd GF E.2.2.2.1 r.2.1 lo r.2.2.2.2.1 r.2.2.2.1 (QFr FN E.2.2.2.1 r.2.2.2.1 (kk + kb)) ∧ 2 * kb + q < r.1 := by
  obtain ⟨s, g1, hG⟩ := gb_s hG
  obtain ⟨⟨a1, a2, a3, a4, a5, a6, a7, a8⟩, _⟩ := gTg_mo (M := 1) hq hv hb1 (Nat.le_refl 1) g1
  obtain ⟨kb, hF, hH, hk⟩ := gTg_t hT hq hv ho hbn hbp hb1 hE hN g1
  obtain ⟨w, t, hG⟩ := gW_s hG
  have u := tkN_b T n s.1 a2
  obtain ⟨l1, l2, l3, l4, l5⟩ := hL
  obtain ⟨h1, h2, h3, h4, h5⟩ := hH
  cases hG
  refine ⟨kb, Frm_tr hF (Frm_node (vv := s.2.1)) a3 (Or.inl rfl), SLd_nd l1 (by omega) (fun T' hA hlt' hGF n4 n5 n6 n7 => ?_), by show 2 * kb + q < tkN T n s.1; omega⟩
  obtain ⟨k, ch, w1, c1, c2, c3, c4⟩ := l5 T' (Agr_g (hA e) hF a3 l1 (Nat.le_refl _) (Or.inl (by omega)) (Or.inl rfl)) hGF
  obtain ⟨k', ch', w2, d1, d2, d3, d4⟩ := h5 T' (Agr_g (hA s.2.2.2.1) Frm_rf (Nat.le_refl _) l1 (by omega) (Or.inl (by omega : (0 : Nat) < b.1)) (Or.inl rfl)) hGF
  exact ⟨n4, k, k', w1, w2, ch, ch', c2, c3, d2, d3, n5.trans (by rw [c1]), n6.trans (by rw [d1]), by rw [c4, d4]⟩
end SL2
