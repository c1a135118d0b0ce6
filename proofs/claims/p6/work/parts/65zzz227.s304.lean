/-! Targets that the grammar lays: a chain of parts, and how many bytes its keys take. -/
section TGL
variable {FN : Nat → Nat → Prop} {fl lc : Nat → Prop} {un vv vw vx : Nat} {O O' r r' K K' lo e a s c d kk k n : Nat} {b b' b'' : BT} {T T' : Nat → Nat → Int32} {x y z w : Int32} {ch ch' : Nat → Nat}
theorem lcW_U {j : Nat} (h : lcW fl un T' j) : lcU un T' j := by
  rcases h with h | h | h | h
  · exact Or.inl h
  · exact Or.inr (Or.inl h)
  · exact Or.inr (Or.inr (Or.inl h))
  · exact Or.inr (Or.inr (Or.inr h.1))
theorem Wx_of (hO : O ≤ 20) (hK : K ≤ 60) (hr : r ≤ 14) (h : WX T' FN O r K (lcW fl un T') x) : Wx0 T' FN (lcU un T') x := by
  obtain ⟨F, w⟩ := WX_mo (K' := K) (O' := O) (r' := 14) (WX_lc (fun j z => lcW_U z) h) (Nat.le_refl K) (Or.inl ⟨rfl, hr⟩)
  exact ⟨O, K, hO, hK, F, w⟩
theorem kys_c : ∀ j, (∀ i, i ≤ j → ch' i = ch i) → kys T ch' j = kys T ch j := by
  intro j
  induction j with
  | zero => intro _; rfl
  | succ j ih =>
    intro h
    show kys T ch' j + _ = kys T ch j + _
    rw [ih (fun i hi => h i (by omega)), h (j + 1) (Nat.le_refl _)]
/-- a part more -/
theorem Tgt_s (h : Tgt T FN lc k ch) (hn : 1 ≤ n ∧ n < LNo T % 70001) (h6 : T 6 n = nI (ch k)) (h9 : T 9 (ch k) = nI n) (h4 : T 4 n = 21 ∨ T 4 n = 22 ∨ T 4 n = 23) (w7 : Wx0 T FN lc (T 7 n)) (w8 : T 4 n = 22 → Wx0 T FN lc (T 8 n)) : ∃ ch' : Nat → Nat, Tgt T FN lc (k + 1) ch' ∧ kys T ch' (k + 1) = kys T ch k + (if T 4 n = 22 then 2 else 1) ∧ ch' 0 = ch 0 ∧ ch' (k + 1) = n := by
  have e1 : ∀ i, i ≤ k → (fun i => if i ≤ k then ch i else n) i = ch i := fun i hi => if_pos hi
  have e2 : (fun i => if i ≤ k then ch i else n) (k + 1) = n := if_neg (by omega)
  refine ⟨fun i => if i ≤ k then ch i else n, ?_, ?_, e1 0 (Nat.zero_le _), e2⟩
  · generalize (fun i => if i ≤ k then ch i else n) = ch' at e1 e2
    refine ⟨fun i hi => ?_, ?_, fun i hi => ?_⟩
    · by_cases c : i ≤ k
      · rw [e1 i c]; exact h.1 i c
      · rw [show i = k + 1 by omega, e2]; exact hn
    · rw [e1 0 (Nat.zero_le _)]; exact h.2.1
    · by_cases c : i < k
      · rw [e1 (i + 1) (by omega), e1 i (by omega)]; exact h.2.2 i c
      · have ei : i = k := by omega
        subst ei
        rw [e2, e1 i (Nat.le_refl _)]
        exact ⟨h6, h9, h4, w7, w8⟩
  · generalize (fun i => if i ≤ k then ch i else n) = ch' at e1 e2
    show kys T ch' k + (if T 4 (ch' (k + 1)) = 22 then 2 else 1) = _
    rw [kys_c k e1, e2]
/-- a target that was laid last: its variable a (of the program: x nought; slot s), kk keys -/
def LTg (FN : Nat → Nat → Prop) (un vv lo : Nat) (b : BT) (e a s kk : Nat) (x : Int32) : Prop := 1 ≤ lo ∧ lo ≤ e ∧ e < b.1 ∧ b.2.2.1 9 e = -1 ∧ ∀ T', Agr T' un vv b lo e → ∃ k ch, ch k = e ∧ ch 0 = a ∧ Tgt T' FN (lcU un T') k ch ∧ kys T' ch k = kk ∧ T' 5 a = x ∧ T' 6 a = nI s
theorem LTg_0 (h1 : 1 ≤ lo) (hl : lo ≤ b.1) (hs : s < 60) (hx : x = 0 ∨ ¬ un = 0) : LTg FN un vv lo (bNode b 7 x (nI s) z) b.1 b.1 s 0 x := by
  refine ⟨h1, hl, Nat.lt_succ_self _, nd_t.2.2.2.2.2, fun T' hA => ?_⟩
  obtain ⟨n4, n5, n6, n7, _⟩ := nd_at hA hl
  exact ⟨0, fun _ => b.1, rfl, rfl, ⟨fun i _ => ⟨Nat.le_trans h1 hl, hA.2.2.2.1⟩, ⟨n4, s, n6, hs, hx.imp (fun z => n5.trans z) (fun z => Or.inl ⟨rfl, z⟩)⟩, fun i hi => absurd hi (Nat.not_lt_zero _)⟩, rfl, n5, n6⟩
theorem LTg_ov {kd : Int32} (h : LTg FN un vv lo b e a s kk x) (hF : Frm un vv b e b') (hs : LPt FN fl un vw O' r' K' b.1 b' c) (hv : vv ≤ vw) (hO : O' ≤ 20) (hK : K' ≤ 60) (hr : r' ≤ 14) (hk : kd = 21 ∨ kd = 23) : LTg FN un vw lo (bOver b' kd y e (nI c)) b'.1 a s (kk + 1) x := by
  obtain ⟨p1, p2, p3, p4, p5⟩ := id h
  obtain ⟨s1, s2, s3, s4, s5⟩ := id hs
  have hb := hF.1
  refine ⟨p1, by omega, Nat.lt_succ_self _, ?_, fun T' hA => ?_⟩
  · unfold bOver; rw [bSet_o (by omega)]; exact nd_t.2.2.2.2.2
  obtain ⟨n4, n5, n6, n7, n9⟩ := ov_at hA p2 (by omega)
  obtain ⟨k0, ch, c1, c2, c3, c4, c5, c6⟩ := p5 T' (Agr_dn hA (Frm_tr hF (Frm_over (vv := vv)) (Nat.le_refl _) (Or.inl rfl)) hv p1 (Or.inr hb) (Nat.le_refl _))
  have ws := Wx_of hO hK hr (s5 T' (Agr_hi hA Frm_over (Nat.le_refl _) p1 (Nat.le_refl _) (by omega) (by omega)))
  obtain ⟨ch', d1, d2, d3, d4⟩ := Tgt_s (n := b'.1) c3 ⟨by omega, hA.2.2.2.1⟩ (by rw [c1]; exact n6) (by rw [c1]; exact n9) (by rw [n4]; rcases hk with rfl | rfl <;> decide) (by rw [n7]; exact ws) (fun z => by rw [n4] at z; rcases hk with rfl | rfl <;> exact absurd z (by decide))
  refine ⟨k0 + 1, ch', d4, d3.trans c2, d1, ?_, c5, c6⟩
  rw [d2, c4, n4, if_neg (by rcases hk with rfl | rfl <;> decide)]
theorem LTg_sli (h : LTg FN un vv lo b e a s kk x) (hF : Frm un vv b e b') (hs : LPt FN fl un vw O' r' K' b.1 b' c) (hF2 : Frm un vw b' 0 b'') (hs2 : LPt FN fl un vx O' r' K b'.1 b'' d) (hv : vv ≤ vw) (hv2 : vw ≤ vx) (hO : O' ≤ 20) (hK : K' ≤ 60) (hK2 : K ≤ 60) (hr : r' ≤ 14) : LTg FN un vx lo (bSet (bOver b'' 22 y e (nI c)) 8 b''.1 (nI d)) b''.1 a s (kk + 2) x := by
  obtain ⟨p1, p2, p3, p4, p5⟩ := id h
  obtain ⟨s1, s2', s3, s4, s5⟩ := id hs
  obtain ⟨u1, u2, u3, u4, u5⟩ := id hs2
  have hb := hF.1
  have hb2 := hF2.1
  have fo : ∀ {vy : Nat}, Frm un vy b'' e (bSet (bOver b'' 22 y e (nI c)) 8 b''.1 (nI d)) := Frm_set8 (Nat.le_refl _) Frm_over
  refine ⟨p1, by omega, Nat.lt_succ_self _, ?_, fun T' hA => ?_⟩
  · rw [bSet_o (by omega)]; unfold bOver; rw [bSet_o (by omega)]; exact nd_t.2.2.2.2.2
  have rd : ∀ a i, 4 ≤ a → a ≤ 9 → lo ≤ i → i < b''.1 + 1 → ¬ (a = 9 ∧ i = b''.1) → ¬ (a = 8 ∧ i = b''.1) → T' a i = (bOver b'' 22 y e (nI c)).2.2.1 a i := fun a i q1 q2 q3 q4 q5 q6 => by
    rw [hA.1 a i q1 q2 q3 q4 q5, bSet_o q6]
  obtain ⟨t4, t5, t6, t7, t8, _⟩ := nd_t (b := b'') (k := 22) (x := y) (y := nI e) (z := nI c)
  have n4 : T' 4 b''.1 = 22 := by rw [rd 4 _ (by decide) (by decide) (by omega) (by omega) (by omega) (by omega)]; unfold bOver; rw [bSet_o (by omega)]; exact t4
  have n6 : T' 6 b''.1 = nI e := by rw [rd 6 _ (by decide) (by decide) (by omega) (by omega) (by omega) (by omega)]; unfold bOver; rw [bSet_o (by omega)]; exact t6
  have n7 : T' 7 b''.1 = nI c := by rw [rd 7 _ (by decide) (by decide) (by omega) (by omega) (by omega) (by omega)]; unfold bOver; rw [bSet_o (by omega)]; exact t7
  have n8 : T' 8 b''.1 = nI d := by rw [hA.1 8 _ (by decide) (by decide) (by omega) (Nat.lt_succ_self _) (by omega), bSet_s]
  have n9 : T' 9 e = nI b''.1 := by rw [rd 9 _ (by decide) (by decide) p2 (by omega) (by omega) (by omega)]; unfold bOver; rw [bSet_s]
  obtain ⟨k0, ch, c1, c2, c3, c4, c5, c6⟩ := p5 T' (Agr_dn hA (Frm_tr (Frm_tr hF hF2 hv (Or.inr (Or.inr rfl))) (fo (vy := vx)) (by omega) (Or.inl rfl)) (by omega) p1 (Or.inr (by omega)) (Nat.le_refl _))
  have ws := Wx_of hO hK hr (s5 T' (Agr_hi hA (Frm_tr (Frm_wk hF2) (fo (vy := vx)) hv2 (Or.inl rfl)) hv2 p1 (by omega) (by omega) (by omega)))
  have wu := Wx_of hO hK2 hr (u5 T' (Agr_hi hA fo (Nat.le_refl _) p1 (Nat.le_refl _) (by omega) (by omega)))
  obtain ⟨ch', d1, d2, d3, d4⟩ := Tgt_s (n := b''.1) c3 ⟨by omega, hA.2.2.2.1⟩ (by rw [c1]; exact n6) (by rw [c1]; exact n9) (by rw [n4]; decide) (by rw [n7]; exact ws) (fun _ => by rw [n8]; exact wu)
  refine ⟨k0 + 1, ch', d4, d3.trans c2, d1, ?_, c5, c6⟩
  rw [d2, c4, n4, if_pos rfl]
end TGL
/-- parts of a target -/
theorem g_tgt {T : Nat → Int32} {n : Nat} {FN : Nat → Nat → Prop} (hT : ∀ i, i < n → ∃ d, d ≤ 300 ∧ T i = nI d) : ∀ (f : Nat) (E : En) (o q v i e : Nat) (b : BT) (r : RT) (lo a s kk : Nat) (x : Int32), q ≤ n → v ≤ 60 → o ≤ 20 → b.1 + n < 70000 + q → b.2.1 + n ≤ 70000 + q → 1 ≤ b.1 → EnOK FN E → G T n f 12 E o q v i e 0 0 b = some (some r) → LTg FN E.2.2.2.1 v lo b e a s kk x → ∃ kk', Frm E.2.2.2.1 v b e r.2.2.2.2.1 ∧ LTg FN E.2.2.2.1 r.2.1 lo r.2.2.2.2.1 r.2.2.2.1 a s kk' x ∧ 2 * kk' + q ≤ 2 * kk + r.1 := by
  intro f
  induction f with
  | zero => intro E o q v i e b r lo a s kk x _ _ _ _ _ _ _ hG; exact absurd hG (by unfold G; intro h; cases h)
  | succ f ihf =>
    intro E o q v i e b r lo a s kk x hq hv ho hbn hbp hb1 hE hG hL
    have mo := g_mono T n f
    have ih := g_tree (FN := FN) hT f
    rw [G_12] at hG
    have n1 := hL.1
    have n2 := hL.2.1
    have n3 := hL.2.2.1
    by_cases y1 : tkK T n q = 6 ∨ tkK T n q = 8
    · rw [if_pos y1] at hG
      obtain ⟨o2, hG⟩ := gO_s hG
      obtain ⟨t3, hG⟩ := gT_s hG
      have u3 := tkN_b T n q (by omega)
      have v3 := u3.2.2.2 (by rcases y1 with z | z <;> (rw [z]; decide))
      try dsimp only at hG
      obtain ⟨s4, g4, hG⟩ := gb_s hG
      have x4 := mo _ _ _ _ _ _ _ _ _ _ s4 (by omega) (by omega) g4 1 (by omega) (Nat.le_refl 1) (trivial)
      obtain ⟨a4, b4, c4, d4, e4, f4, h4, i4⟩ := (x4.1 : Mo n _ _ _ s4)
      have y4' := ih 0 _ _ _ _ _ _ _ _ _ s4 (0) (_) (_) (by omega) (by omega) (by omega) (by omega) (by omega) (by omega) (hE) g4 (⟨rfl, rfl⟩)
      have y4 : Frm E.2.2.2.1 v b 0 s4.2.2.2.2.1 ∧ LPt FN (eFl E) E.2.2.2.1 s4.2.1 (20 - (o + 1)) 14 (60 - v) b.1 s4.2.2.2.2.1 s4.2.2.2.1 := y4'
      have j4 : b.1 ≤ s4.2.2.2.1 ∧ s4.2.2.2.1 < s4.2.2.2.2.1.1 := ⟨y4.2.2.1, y4.2.2.2.1⟩
      try dsimp only at hG
      by_cases y5 : tkK T n q = 6 ∧ tkK T n s4.1 = 16
      · rw [if_pos y5] at hG
        obtain ⟨t6, hG⟩ := gT_s hG
        have u6 := tkN_b T n s4.1 (by omega)
        have v6 := u6.2.2.2 (by rw [y5.2]; decide)
        try dsimp only at hG
        obtain ⟨s7, g7, hG⟩ := gb_s hG
        have x7 := mo _ _ _ _ _ _ _ _ _ _ s7 (by omega) (by omega) g7 1 (by omega) (Nat.le_refl 1) (trivial)
        obtain ⟨a7, b7, c7, d7, e7, f7, h7, i7⟩ := (x7.1 : Mo n _ _ _ s7)
        have y7' := ih 0 _ _ _ _ _ _ _ _ _ s7 (0) (_) (_) (by omega) (by omega) (by omega) (by omega) (by omega) (by omega) (hE) g7 (⟨rfl, rfl⟩)
        have y7 : Frm E.2.2.2.1 s4.2.1 s4.2.2.2.2.1 0 s7.2.2.2.2.1 ∧ LPt FN (eFl E) E.2.2.2.1 s7.2.1 (20 - (o + 1)) 14 (60 - s4.2.1) s4.2.2.2.2.1.1 s7.2.2.2.2.1 s7.2.2.2.1 := y7'
        have j7 : s4.2.2.2.2.1.1 ≤ s7.2.2.2.1 ∧ s7.2.2.2.1 < s7.2.2.2.2.1.1 := ⟨y7.2.2.1, y7.2.2.2.1⟩
        try dsimp only at hG
        obtain ⟨w8, t8, hG⟩ := gW_s hG
        have u8 := tkN_b T n s7.1 (by omega)
        have v8 := u8.2.2.2 (by rw [w8]; decide)
        try dsimp only at hG
        have L2 := LTg_sli (y := 0) hL (Frm_wk y4.1) y4.2 y7.1 y7.2 (by omega) (by omega) (by omega) (by omega) (by omega) (by decide)
        obtain ⟨kk', r1, r2, r3⟩ := ihf _ _ _ _ _ _ _ r lo a s (kk + 2) x u8.2.1 (by omega) ho (by simp only [bSet_1, bOver_1]; omega) (by simp only [bSet_p, bOver_p]; omega) (by simp only [bSet_1, bOver_1]; omega) hE hG L2
        exact ⟨kk', Frm_ta (Frm_ta (Frm_ta (Frm_wk y4.1) (Frm_wk y7.1) (Or.inl rfl)) (Frm_set8 (vv := v) (b := s7.2.2.2.2.1) (Nat.le_refl _) (Frm_over (vv := v))) (Or.inl rfl)) r1 (Or.inr (Or.inl (by omega))), r2, by omega⟩
      · rw [if_neg y5] at hG
        obtain ⟨w10, t10, hG⟩ := gW_s hG
        have u10 := tkN_b T n s4.1 (by omega)
        have v10 := u10.2.2.2 (by rw [w10]; split <;> decide)
        try dsimp only at hG
        have L2 := LTg_ov (y := 0) (kd := if tkK T n q = 8 then 23 else 21) hL (Frm_wk y4.1) y4.2 (by omega) (by omega) (by omega) (by decide) (by split; exact Or.inr rfl; exact Or.inl rfl)
        obtain ⟨kk', r1, r2, r3⟩ := ihf _ _ _ _ _ _ _ r lo a s (kk + 1) x u10.2.1 (by omega) ho (by simp only [bOver_1]; omega) (by simp only [bOver_p]; omega) (by simp only [bOver_1]; omega) hE hG L2
        exact ⟨kk', Frm_ta (Frm_ta (Frm_wk y4.1) (Frm_over (vv := v)) (Or.inl rfl)) r1 (Or.inr (Or.inl (by omega))), r2, by omega⟩
    · rw [if_neg y1] at hG
      cases hG
      exact ⟨kk, Frm_rf, hL, Nat.le_refl _⟩
