/-! Simple statements, as the grammar lays them: words. -/
/-- quit, continue, return, print, assert, the rest -/
def QSm (FN : Nat → Nat → Prop) (un lp n ks : Nat) (T' : Nat → Nat → Int32) : Prop := ((T' 4 n = 49 ∨ T' 4 n = 50) ∧ ¬ lp = 0) ∨ (T' 4 n = 51 ∧ ¬ un = 0 ∧ (T' 5 n = -1 ∨ Wx0 T' FN (lcU un T') (T' 5 n))) ∨ (T' 4 n = 52 ∧ ExL T' FN (lcU un T') ks (T' 5 n)) ∨ (T' 4 n = 53 ∧ Wx0 T' FN (lcU un T') (T' 5 n)) ∨ T' 4 n = 54 ∨ T' 4 n = 55 ∨ T' 4 n = 56
section SL3
variable {T : Nat → Int32} {n : Nat} {FN : Nat → Nat → Prop} {GF : Nat → Prop} {E : En} {v lp : Nat} {b : BT}
theorem gSm0_t {f o w q : Nat} {r : RT} (hw : 17 ≤ w ∧ w ≤ 24) (h49 : w = 17 ∨ w = 18 → ¬ lp = 0) (h51 : w = 19 → ¬ E.2.2.2.1 = 0) (hT : ∀ i, i < n → ∃ d, d ≤ 300 ∧ T i = nI d) (hq : q ≤ n) (hv : v ≤ 60) (ho : o ≤ 20) (hbn : b.1 + n < 70000 + q) (hbp : b.2.1 + n ≤ 70000 + q) (hb1 : 1 ≤ b.1) (hE : EnOK FN E) (hN : NmC E.2.2.2.1 v b GF E) (hG : gSm0 T n f E o w q v b = some (some r)) : ∃ ks, Frm E.2.2.2.1 v b 0 r.2.2.2.2.1 ∧ SLd GF E.2.2.2.1 r.2.1 b.1 r.2.2.2.2.1 r.2.2.2.1 (QSm FN E.2.2.2.1 lp r.2.2.2.1 ks) ∧ 2 * ks + q ≤ r.1 := by
  unfold gSm0 at hG
  have ex : ∀ {kd : Int32} {Q : (Nat → Nat → Int32) → Prop}, (∀ T' m, T' 4 m = kd → Wx0 T' FN (lcU E.2.2.2.1 T') (T' 5 m) → QSm FN E.2.2.2.1 lp m 0 T') → gb (G T n f 0 E o q v 0 0 0 0 b) (fun r => gS13 T n r.1 r.2.1 r.2.2.2.2.1.1 (bNode r.2.2.2.2.1 kd (nI r.2.2.2.1) 0 0)) = some (some r) → ∃ ks, Frm E.2.2.2.1 v b 0 r.2.2.2.2.1 ∧ SLd GF E.2.2.2.1 r.2.1 b.1 r.2.2.2.2.1 r.2.2.2.1 (QSm FN E.2.2.2.1 lp r.2.2.2.1 ks) ∧ 2 * ks + q ≤ r.1 := fun {kd} {Q} hQ h => by
    obtain ⟨s, g1, h⟩ := gb_s h
    obtain ⟨⟨a1, a2, a3, a4, a5, a6, a7, a8⟩, hF, hP, hlt, hi⟩ := ex_of (GF := GF) hT hq hv ho hbn hbp hb1 hE hN g1
    unfold gS13 at h
    obtain ⟨w1, t1, h⟩ := gW_s h
    have u := tkN_b T n s.1 a2
    have p1 := hP.2.1
    have p2 := hP.2.2.1
    cases h
    refine ⟨0, Frm_tr hF (Frm_node (vv := s.2.1)) a3 (Or.inl rfl), SLd_nd hb1 (by omega) (fun T' hA hlt' hGF n4 n5 n6 n7 => hQ T' _ n4 ?_), by show 2 * 0 + q ≤ tkN T n s.1; omega⟩
    show Wx0 T' FN _ (T' 5 s.2.2.2.2.1.1)
    rw [n5]
    exact Wx_of (by omega) (by omega) (by decide) (hP.2.2.2.2 T' (hA s.2.2.2.1))
  have nd : ∀ {kd x : Int32}, (∀ T' m, T' 4 m = kd → T' 5 m = x → QSm FN E.2.2.2.1 lp m 0 T') → gS13 T n q v b.1 (bNode b kd x 0 0) = some (some r) → ∃ ks, Frm E.2.2.2.1 v b 0 r.2.2.2.2.1 ∧ SLd GF E.2.2.2.1 r.2.1 b.1 r.2.2.2.2.1 r.2.2.2.1 (QSm FN E.2.2.2.1 lp r.2.2.2.1 ks) ∧ 2 * ks + q ≤ r.1 := fun {kd x} hQ h => by
    unfold gS13 at h
    obtain ⟨w1, t1, h⟩ := gW_s h
    have u := tkN_b T n q hq
    cases h
    exact ⟨0, Frm_node, SLd_nd hb1 (Nat.le_refl _) (fun T' hA hlt' hGF n4 n5 n6 n7 => hQ T' _ n4 n5), by show 2 * 0 + q ≤ tkN T n q; omega⟩
  by_cases c19 : w = 19
  · rw [if_pos c19] at hG
    by_cases k13 : tkK T n q = 13
    · rw [if_pos k13] at hG
      exact nd (fun T' m h4 h5 => Or.inr (Or.inl ⟨h4, h51 c19, Or.inl h5⟩)) hG
    · rw [if_neg k13] at hG
      exact ex (Q := fun _ => True) (fun T' m h4 h5 => Or.inr (Or.inl ⟨h4, h51 c19, Or.inr h5⟩)) hG
  rw [if_neg c19] at hG
  by_cases c20 : w = 20
  · rw [if_pos c20] at hG
    by_cases k6 : tkK T n q = 6
    · rw [if_pos k6] at hG
      obtain ⟨o2, hG⟩ := gO_s hG
      obtain ⟨t1, hG⟩ := gT_s hG
      have u1 := tkN_b T n q hq
      have u1' := u1.2.2.2 (by rw [k6]; decide)
      obtain ⟨s, g1, hG⟩ := gb_s hG
      obtain ⟨⟨a1, a2, a3, a4, a5, a6, a7, a8⟩, hF, hP, hlt, hi⟩ := ex_of (GF := GF) hT u1.2.1 hv (show o + 1 ≤ 20 by omega) (by omega) (by omega) hb1 hE hN g1
      have p1 := hP.2.1
      have p2 := hP.2.2.1
      obtain ⟨p, g2, hG⟩ := gb_s hG
      obtain ⟨⟨c1, c2, c3, c4, c5, c6, c7, c8⟩, d1, d2⟩ := gpr_mo f (o + 1) s.1 s.2.1 s.2.2.2.1 s.2.2.2.2.1 p 1 a2 (by omega) g2 (by omega) (Nat.le_refl 1) (by omega) p2
      have L0 : LL (PEx FN E.2.2.2.1) E.2.2.2.1 s.2.1 b.1 s.2.2.2.2.1 s.2.2.2.1 s.2.2.2.1 0 := ⟨hP.1, p1, p2, hP.2.2.2.1, fun T' hA => ⟨rfl, PEx_of (show o + 1 ≤ 20 by omega) hP hb1 hA⟩⟩
      obtain ⟨c', r1, r2, r3⟩ := gpr_t (GF := GF) hT hE f (o + 1) s.1 s.2.1 s.2.2.2.1 s.2.2.2.2.1 p b.1 s.2.2.2.1 0 a2 (by omega) (by omega) (by omega) (by omega) (by omega) (NmC_fr hN hF a3) g2 L0
      obtain ⟨w3, t3, hG⟩ := gW_s hG
      have u3 := tkN_b T n p.1 c2
      have u3' := u3.2.2.2 (by rw [w3]; decide)
      unfold gS13 at hG
      obtain ⟨w4, t4, hG⟩ := gW_s hG
      have u4 := tkN_b T n _ u3.2.1
      have e1 := r1.1
      have e2 := hF.1
      cases hG
      refine ⟨c' + 1, Frm_tr (Frm_tr hF (Frm_tr r1 (Frm_node (vv := p.2.1)) c3 (Or.inl rfl)) a3 (Or.inr (Or.inl p1))) Frm_rf (Nat.le_refl v) (Or.inl rfl), SLd_nd hb1 (by omega) (fun T' hA hlt' hGF n4 n5 n6 n7 => Or.inr (Or.inr (Or.inl ⟨n4, ?_⟩))), by show 2 * (c' + 1) + q ≤ tkN T n (tkN T n p.1); omega⟩
      show ExL T' FN _ (c' + 1) (T' 5 p.2.2.2.2.1.1)
      rw [n5]
      obtain ⟨y1, y2⟩ := LL_w r2 (hA 0)
      have := LS_X c' 0 s.2.2.2.1 p.2.2.2.1 y1 y2
      rw [Nat.zero_add] at this
      exact this
    · rw [if_neg k6] at hG; cases hG
  rw [if_neg c20] at hG
  by_cases c21 : w = 21
  · rw [if_pos c21] at hG
    exact ex (Q := fun _ => True) (fun T' m h4 h5 => Or.inr (Or.inr (Or.inr (Or.inl ⟨h4, h5⟩)))) hG
  rw [if_neg c21] at hG
  refine nd (fun T' m h4 h5 => ?_) hG
  have : w = 17 ∨ w = 18 ∨ w = 22 ∨ w = 23 ∨ w = 24 := by omega
  rcases this with rfl | rfl | rfl | rfl | rfl
  · exact Or.inl ⟨Or.inl h4, h49 (by omega)⟩
  · exact Or.inl ⟨Or.inr h4, h49 (by omega)⟩
  · exact Or.inr (Or.inr (Or.inr (Or.inr (Or.inl h4))))
  · exact Or.inr (Or.inr (Or.inr (Or.inr (Or.inr (Or.inl h4)))))
  · exact Or.inr (Or.inr (Or.inr (Or.inr (Or.inr (Or.inr h4)))))
end SL3
