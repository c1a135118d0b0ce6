/-! Arguments of a call of a procedure: exps; targets where the mode asks for them. -/
/-- the j-th argument: no more than KB keys -/
def PAr (FN : Nat → Nat → Prop) (GF : Nat → Prop) (un : Nat) (md : Nat → Nat) (np KB : Nat) (T' : Nat → Nat → Int32) (j e : Nat) : Prop := (1 ≤ e ∧ e < LNo T' % 70001) ∧ Wx0 T' FN (lcU un T') (nI e) ∧ (j < np → 0 < md j → (∀ s, GF s → ¬ T' 20 s = 0) → ∃ k ch s, e = ch k ∧ Tgt T' FN (lcU un T') k ch ∧ NmW T' (lcU un T') (cnU un T') (ch 0) s ∧ kys T' ch k ≤ KB)
/-- a target, if it is one -/
def XTg (FN : Nat → Nat → Prop) (GF : Nat → Prop) (un q : Nat) (b : BT) (s : RT) : Prop := ¬ s.2.2.1 = 0 → ∃ kk, LTt FN GF un s.2.1 b.1 s.2.2.2.2.1 s.2.2.2.1 kk ∧ 2 * kk + q + 1 ≤ s.1
section ARG
variable {T : Nat → Int32} {n : Nat} {FN : Nat → Nat → Prop} {GF : Nat → Prop} {E : En} {md : Nat → Nat} {np KB q0 : Nat}
/-- an exp of a statement; a target, if it is one -/
theorem ex_of {f o q v : Nat} {b : BT} {s : RT} (hT : ∀ i, i < n → ∃ d, d ≤ 300 ∧ T i = nI d) (hq : q ≤ n) (hv : v ≤ 60) (ho : o ≤ 20) (hbn : b.1 + n < 70000 + q) (hbp : b.2.1 + n ≤ 70000 + q) (hb1 : 1 ≤ b.1) (hE : EnOK FN E) (hN : NmC E.2.2.2.1 v b GF E) (hG : G T n f 0 E o q v 0 0 0 0 b = some (some s)) : Mo n b q v s ∧ Frm E.2.2.2.1 v b 0 s.2.2.2.2.1 ∧ LPt FN (eFl E) E.2.2.2.1 s.2.1 (20 - o) 14 (60 - v) b.1 s.2.2.2.2.1 s.2.2.2.1 ∧ q < s.1 ∧ XTg FN GF E.2.2.2.1 q b s := by
  have x4 := g_mono T n f 0 E o q v 0 0 0 0 b s hq hv hG 1 (by omega) (Nat.le_refl 1) trivial
  have m4 : Mo n b q v s := x4.1
  have y4 := g_tree (FN := FN) hT f 0 E o q v 0 0 0 0 b s 0 _ _ hq hv ho hbn hbp hb1 hE hG (⟨rfl, rfl⟩)
  have y4 : Frm E.2.2.2.1 v b 0 s.2.2.2.2.1 ∧ LPt FN (eFl E) E.2.2.2.1 s.2.1 (20 - o) 14 (60 - v) b.1 s.2.2.2.2.1 s.2.2.2.1 := y4
  have j1 := y4.2.2.1
  have j2 := y4.2.2.2.1
  obtain ⟨a1, a2, a3, a4, a5, a6, a7, a8⟩ := id m4
  refine ⟨m4, y4.1, y4.2, by omega, fun hi => ?_⟩
  rcases g_inf f 0 q v b s (by omega) hG with z | ⟨f', r', g1, e1, e2, e3, e4, e5⟩
  · exact absurd z hi
  · obtain ⟨kk, k1, k2, k3⟩ := gTg_t hT hq hv ho hbn hbp hb1 hE hN g1
    rw [e2, e5, e4] at k2
    rw [e1] at k3
    exact ⟨kk, k2, k3⟩
theorem PA_of {o q v j : Nat} {b : BT} {s : RT} {T' : Nat → Nat → Int32} (ho : o ≤ 20) (hL : LPt FN (eFl E) E.2.2.2.1 s.2.1 (20 - o) 14 (60 - v) b.1 s.2.2.2.2.1 s.2.2.2.1) (hb1 : 1 ≤ b.1) (hi : XTg FN GF E.2.2.2.1 q b s) (hc : ¬ (j < np ∧ 0 < md j ∧ s.2.2.1 = 0)) (hKB : s.1 ≤ 2 * KB + q) (hA : Agr T' E.2.2.2.1 s.2.1 s.2.2.2.2.1 b.1 s.2.2.2.1) : PAr FN GF E.2.2.2.1 md np KB T' j s.2.2.2.1 := by
  have l1 := hL.2.1
  have l2 := hL.2.2.1
  refine ⟨⟨by omega, Nat.lt_of_lt_of_le l2 hA.2.2.2.1⟩, Wx_of (by omega) (by omega) (by decide) (hL.2.2.2.2 T' hA), fun h1 h2 hGF => ?_⟩
  obtain ⟨kk, k1, k2⟩ := hi (fun z => hc ⟨h1, h2, z⟩)
  obtain ⟨k, ch, s', c1, c2, c3, c4⟩ := k1.2.2.2.2 T' hA hGF
  exact ⟨k, ch, s', c1, c2, c3, by omega⟩
/-- the arguments -/
theorem ga_t (hT : ∀ i, i < n → ∃ d, d ≤ 300 ∧ T i = nI d) (hE : EnOK FN E) : ∀ (f o q v i e c : Nat) (b : BT) (r : RT) (lo : Nat), q0 ≤ q → q ≤ n → v ≤ 60 → o ≤ 20 → b.1 + n < 70000 + q → b.2.1 + n ≤ 70000 + q → 1 ≤ b.1 → NmC E.2.2.2.1 v b GF E → c ≤ q → GA T n md np E f o q v i e c b = some (some r) → r.1 ≤ 2 * KB + q0 → ((c = 0 ∧ lo = b.1) ∨ (LL (PAr FN GF E.2.2.2.1 md np KB) E.2.2.2.1 v lo b i e (c - 1) ∧ 1 ≤ c ∧ 1 ≤ i ∧ i < b.1)) → Frm E.2.2.2.1 v b e r.2.2.2.2.1 ∧ ((r.2.2.1 = 0 ∧ r.2.2.2.1 = 0) ∨ (1 ≤ r.2.2.1 ∧ 1 ≤ r.2.2.2.1 ∧ ∃ el, LL (PAr FN GF E.2.2.2.1 md np KB) E.2.2.2.1 r.2.1 lo r.2.2.2.2.1 r.2.2.2.1 el (r.2.2.1 - 1))) := by
  intro f
  induction f with
  | zero => intro o q v i e c b r lo _ _ _ _ _ _ _ _ _ hG; exact absurd hG (by unfold GA; intro h; cases h)
  | succ f ih =>
    intro o q v i e c b r lo hq0 hq hv ho hbn hbp hb1 hN hcq hG hKB hL
    unfold GA at hG
    by_cases c0 : c = 0
    · rw [if_pos c0] at hG
      obtain ⟨_, rfl⟩ := hL.resolve_right (fun z => by omega)
      by_cases k7 : tkK T n q = 7
      · rw [if_pos k7] at hG
        cases hG
        exact ⟨Frm_rf, Or.inl ⟨rfl, rfl⟩⟩
      · rw [if_neg k7] at hG
        obtain ⟨s, g1, hG⟩ := gb_s hG
        obtain ⟨⟨a1, a2, a3, a4, a5, a6, a7, a8⟩, hF, hP, hlt, hi⟩ := ex_of (GF := GF) hT hq hv ho hbn hbp hb1 hE hN g1
        by_cases cc : 0 < np ∧ 0 < md 0 ∧ s.2.2.1 = 0
        · rw [if_pos cc] at hG; cases hG
        rw [if_neg cc] at hG
        have p1 := hP.2.1
        have p2 := hP.2.2.1
        have mo := (ga_mo f o s.1 s.2.1 s.2.2.2.1 s.2.2.2.1 1 s.2.2.2.2.1 r 1 a2 (by omega) hG (by omega) (Nat.le_refl 1) (by omega) (Or.inr ⟨by omega, p2, by omega, p2⟩)).1
        have m1 : s.1 ≤ r.1 := mo.1
        have L1 : LL (PAr FN GF E.2.2.2.1 md np KB) E.2.2.2.1 s.2.1 b.1 s.2.2.2.2.1 s.2.2.2.1 s.2.2.2.1 0 := ⟨hP.1, p1, p2, hP.2.2.2.1, fun T' hA => ⟨rfl, PA_of ho hP hb1 hi cc (by omega) hA⟩⟩
        obtain ⟨r1, r2⟩ := ih o s.1 s.2.1 s.2.2.2.1 s.2.2.2.1 1 s.2.2.2.2.1 r b.1 (by omega) a2 (by omega) ho (by omega) (by omega) (by omega) (NmC_fr hN hF a3) (by omega) hG hKB (Or.inr ⟨L1, Nat.le_refl _, by omega, p2⟩)
        exact ⟨Frm_tr (Frm_wk hF) r1 a3 (Or.inr (Or.inl p1)), r2⟩
    · rw [if_neg c0] at hG
      obtain ⟨hLL, l1, l2, l3⟩ := hL.resolve_left (fun z => c0 z.1)
      have n1 := hLL.1
      have n2 := hLL.2.1
      have n3 := hLL.2.2.1
      by_cases k12 : tkK T n q = 12
      · rw [if_pos k12] at hG
        obtain ⟨t1, hG⟩ := gT_s hG
        have u := tkN_b T n q hq
        have u4 := u.2.2.2 (by rw [k12]; decide)
        obtain ⟨s, g1, hG⟩ := gb_s hG
        obtain ⟨⟨a1, a2, a3, a4, a5, a6, a7, a8⟩, hF, hP, hlt, hi⟩ := ex_of (GF := GF) hT u.2.1 hv ho (by omega) (by omega) hb1 hE hN g1
        by_cases cc : c < np ∧ 0 < md c ∧ s.2.2.1 = 0
        · rw [if_pos cc] at hG; cases hG
        rw [if_neg cc] at hG
        have p1 := hP.2.1
        have p2 := hP.2.2.1
        have mo := (ga_mo f o s.1 s.2.1 i s.2.2.2.1 (c + 1) (bSet s.2.2.2.2.1 9 e (nI s.2.2.2.1)) r 1 a2 (by omega) hG (by rw [bSet_1]; omega) (Nat.le_refl 1) (by omega) (Or.inr ⟨l2, by rw [bSet_1]; omega, by omega, by rw [bSet_1]; exact p2⟩)).1
        have m1 : s.1 ≤ r.1 := mo.1
        have L1 : LL (PAr FN GF E.2.2.2.1 md np KB) E.2.2.2.1 s.2.1 lo (bSet s.2.2.2.2.1 9 e (nI s.2.2.2.1)) i s.2.2.2.1 (c - 1 + 1) := LL_app hLL hF a3 p1 p2 hP.2.2.2.1 (fun T' hA => by
          rw [show c - 1 + 1 = c by omega]
          exact PA_of ho hP hb1 hi cc (by omega) (Agr_g hA (Frm_set9 (vv := s.2.1)) (Nat.le_refl _) n1 (by omega) (Or.inl (by omega)) (Or.inl rfl)))
        obtain ⟨r1, r2⟩ := ih o s.1 s.2.1 i s.2.2.2.1 (c + 1) (bSet s.2.2.2.2.1 9 e (nI s.2.2.2.1)) r lo (by omega) a2 (by omega) ho (by rw [bSet_1]; omega) (by rw [bSet_p]; omega) (by rw [bSet_1]; omega) (NmC_fr (NmC_fr hN hF a3) (Frm_set9 (vv := s.2.1)) (Nat.le_refl _)) (by omega) hG hKB (Or.inr ⟨by rw [show c + 1 - 1 = c - 1 + 1 by omega]; exact L1, by omega, l2, by rw [bSet_1]; omega⟩)
        exact ⟨Frm_tr (Frm_tr (Frm_wk hF) (Frm_set9 (vv := s.2.1)) a3 (Or.inl rfl)) r1 a3 (Or.inr (Or.inl (by omega))), r2⟩
      · rw [if_neg k12] at hG
        cases hG
        exact ⟨Frm_rf, Or.inr ⟨l1, l2, e, hLL⟩⟩
end ARG
