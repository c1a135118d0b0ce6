/-! Simple statements, as the grammar lays them: calls. -/
/-- a call of p, its target tg -/
def QCa (FN : Nat → Nat → Prop) (un n p np KB : Nat) (md : Nat → Nat) (tg : Int32) (T' : Nat → Nat → Int32) : Prop := T' 4 n = 45 ∧ T' 7 n = nI p ∧ T' 5 n = tg ∧ (KB ≤ KBn T' ∧ KB ≤ 17000 → (∀ j, j < np → md j ≤ 2 ∧ T' 19 (8 * p + j) = nI (md j)) → ArL T' FN (lcU un T') (cnU un T') p np 0 (T' 6 n))
section SL4
variable {T : Nat → Int32} {n : Nat} {FN : Nat → Nat → Prop} {GF : Nat → Prop} {E : En} {v : Nat} {b : BT} {md : Nat → Nat} {np p : Nat} {tg : Int32}
theorem gCl_t {f o q : Nat} {r : RT} (hT : ∀ i, i < n → ∃ d, d ≤ 300 ∧ T i = nI d) (hq : q ≤ n) (hk : ¬ tkK T n q = 25) (hv : v ≤ 60) (ho : o ≤ 20) (hbn : b.1 + n < 70000 + q) (hbp : b.2.1 + n ≤ 70000 + q) (hb1 : 1 ≤ b.1) (hE : EnOK FN E) (hN : NmC E.2.2.2.1 v b GF E) (hG : gCl T n f md np p tg E o q v b = some (some r)) : ∃ KB, Frm E.2.2.2.1 v b 0 r.2.2.2.2.1 ∧ SLd GF E.2.2.2.1 r.2.1 b.1 r.2.2.2.2.1 r.2.2.2.1 (QCa FN E.2.2.2.1 r.2.2.2.1 p np KB md tg) ∧ 2 * KB + q < r.1 := by
  unfold gCl at hG
  obtain ⟨t1, hG⟩ := gT_s hG
  have u1 := tkN_b T n q hq
  have u1' := u1.2.2.2 hk
  by_cases k6 : tkK T n (tkN T n q) = 6
  · rw [if_pos k6] at hG
    obtain ⟨o2, hG⟩ := gO_s hG
    obtain ⟨t2, hG⟩ := gT_s hG
    have u2 := tkN_b T n _ u1.2.1
    have u2' := u2.2.2.2 (by rw [k6]; decide)
    obtain ⟨s, g1, hG⟩ := gb_s hG
    obtain ⟨⟨a1, a2, a3, a4, a5, a6, a7, a8⟩, _⟩ := ga_mo f (o + 1) _ v 0 0 0 b s 1 u2.2.1 hv g1 hb1 (Nat.le_refl 1) (Nat.zero_le _) (Or.inl rfl)
    by_cases k7 : tkK T n s.1 = 7 ∧ s.2.2.1 = np
    · rw [if_pos k7] at hG
      obtain ⟨t3, hG⟩ := gT_s hG
      have u3 := tkN_b T n s.1 a2
      have u3' := u3.2.2.2 (by rw [k7.1]; decide)
      obtain ⟨w4, t4, hG⟩ := gW_s hG
      have u4 := tkN_b T n _ u3.2.1
      have u4' := u4.2.2.2 (by rw [w4]; decide)
      obtain ⟨KB, hKB⟩ : ∃ KB, KB = (s.1 - tkN T n (tkN T n q) + 1) / 2 := ⟨_, rfl⟩
      obtain ⟨r1, r2⟩ := ga_t (GF := GF) (KB := KB) (q0 := tkN T n (tkN T n q)) hT hE f (o + 1) _ v 0 0 0 b s b.1 (Nat.le_refl _) u2.2.1 hv (by omega) (by omega) (by omega) hb1 hN (Nat.zero_le _) g1 (by omega) (Or.inl ⟨rfl, rfl⟩)
      have e1 := r1.1
      cases hG
      refine ⟨KB, Frm_tr r1 (Frm_node (vv := s.2.1)) a3 (Or.inl rfl), SLd_nd hb1 (by omega) (fun T' hA hlt' hGF n4 n5 n6 n7 => ⟨n4, n7, n5, fun hK hm => ?_⟩), by show 2 * KB + q < tkN T n (tkN T n s.1); omega⟩
      show ArL T' FN _ _ p np 0 (T' 6 s.2.2.2.2.1.1)
      rw [n6]
      rcases r2 with ⟨z1, z2⟩ | ⟨z1, z2, el, z3⟩
      · have e0 : np = 0 := k7.2.symm.trans z1
        rw [e0, z2]
        exact rfl
      · rw [hd_1 z2]
        obtain ⟨y1, y2⟩ := LL_w z3 (hA 0)
        have hnp := k7.2
        have L := LS_A (pr := p) hGF hK (s.2.2.1 - 1) 0 s.2.2.2.1 el (fun j hj => ⟨by omega, hm j (by omega)⟩) y1 y2
        rw [show 0 + (s.2.2.1 - 1) + 1 = np by omega] at L
        exact L
    · rw [if_neg k7] at hG; cases hG
  · rw [if_neg k6] at hG; cases hG
end SL4
