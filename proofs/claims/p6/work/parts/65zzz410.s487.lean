/-! The class: targets are read and written into code. -/
section CXC
variable {σ σ' σ0 τ τ' : CS} {L : LV} {b : Bool} {T : Nat → Int32} {n q q' u al o v mk p sz szB nc0 sz0 mk0 a1 a2 m kk f e s ow a t0 g D op : Nat} {y : Int32} {l l' cs cs' ll : List Int32} {tb : List Ent} {α : Type} {x : Option α} {S S' : α → Int32 → CS → Prop} {C : Prop} {E : En} {gl : Nat × (Nat → Nat → Prop)} {Vm : Nat → Prop} {bt : BT} {ks : List Nat}
/-- a method that began later -/
theorem Q_re {g : Nat → Option RS} (h : Sx T n b u al σ0 nc0 sz0 mk0 a1 a2 tb o q v mk p sz τ) (t : Tm g (QPo b u tb.length sz mk x S τ 0 0)) : Tm g (QPo b u nc0 sz0 mk0 x S σ0 a1 a2) := by
  obtain ⟨h1, h2, h3, h4, h5, h6⟩ := h
  refine Tm_mono t (fun r w => ⟨w.1, w.2.1, fun e => ?_, fun e => ?_, XK_t h2 w.2.2.2.2 h4 h5 h6⟩)
  · have y := w.2.2.1 e; omega
  · have y := w.2.2.2.1 e; omega
theorem Q_w {g : Nat → Option RS} (t : Tm g (QPo b u nc0 sz0 mk0 x S σ0 a1 a2)) (i : ∀ t y τ, S t y τ → S' t y τ) : Tm g (QPo b u nc0 sz0 mk0 x S' σ0 a1 a2) := Tm_mono t (fun r w => ⟨fun t e => ⟨(w.1 t e).1, i t _ _ (w.1 t e).2⟩, w.2⟩)
theorem n_nn {p : Nat} (h : p < 2147483648) : ¬ nI p < 0 := fun z => n_in (n := 2147483648) h h (Or.inl z)
/-- a target, its name with it -/
theorem c_target {x : Option RT} (h : QS T n b u al tb o q v mk p sz σ) (ev : EvX E b u al gl Vm tb σ) (n3 : ∀ i, i < tb.length → ¬ (tb.getD i e0E).2.1 = 3) (n10 : n ≤ 10240) (hmk : mk ≤ 2 * q + 18 * o) (hsz : 2 * sz + 3 * (n - q) + 100 ≤ 73728) (hnt : tb.length + (60 - v) ≤ 256) (hp : p ≤ 3 * v) (l1 : L.1 1 = -1) (hG : gTg T n f E o q v bt = some x) : Tm (fun k => f_X5_target k 0 L σ) (QPo b u tb.length sz mk x (fun r y τ => ∃ s ow, TgV u gl Vm s ow ∧ q < tkN T n q ∧ TtR T n b u al gl Vm tb o mk p sz (tkN T n q) v s ow r y τ) σ 0 0) := by
  have s0 := Sy_0 h
  unfold gTg at hG
  refine Tm_suc (fun k => by rw [f_X5_target]) ?_
  refine Tm_yes l1 ?_
  by_cases k26 : tkK T n q = 26
  case neg =>
    rw [if_neg k26] at hG
    exact st_want (kk := 26) (C := False) s0 (by decide) rfl (Or.inl ⟨k26, (Option.some.inj hG).symm⟩) (fun _ _ _ _ c _ => c.elim)
  rw [if_pos k26] at hG
  have go := tk_go h
  have g1 := go.2.2 (by omega)
  have okn : okN (tkS T n q) := (h.1.2.2.2.2.2.2.2.2 k26).2
  obtain ⟨nr1, nr2⟩ := ev.1.2 (tkS T n q) okn
  refine st_want (kk := 26) (C := True) s0 (by decide) rfl (Or.inr ⟨k26, trivial⟩) (fun τ1 ret1 n1 n2 _ s1 => ?_)
  rcases gT_any hG with ⟨w1, w2⟩ | ⟨w1, w2⟩
  · exact st_call (C := True) s1.1 (c_takenName (bs := tkS T n q) s1.1.1 k26 (Or.inl ⟨w1, rfl⟩)) (Or.inl ⟨rfl, w2⟩)
  refine st_call (C := True) s1.1 (c_takenName (bs := tkS T n q) s1.1.1 k26 (Or.inr ⟨w1, rfl⟩)) (Or.inr ⟨_, rfl, trivial, fun τ2 ret m1 m2 hr xk hc => ?_⟩)
  obtain ⟨hr1, hr2⟩ := hr
  have s2 : Sy T n b u al σ tb.length sz mk (0 + n1 + m1) (0 + n2 + m2) tb o (tkN T n q) v mk p sz [] τ2 := Sy_c0 s1 hr1 xk hc (Nat.le_refl _) (Nat.le_refl _)
  have b2 : ∀ L' : LV, x = none → Tm (fun k => f_X5_target k 2 L' τ2) (QPo b u tb.length sz mk x (fun r y τ => ∃ s ow, TgV u gl Vm s ow ∧ q < tkN T n q ∧ TtR T n b u al gl Vm tb o mk p sz (tkN T n q) v s ow r y τ) σ (0 + n1 + m1) (0 + n2 + m2)) := by
    intro L' hx
    refine Tm_suc (fun k => by rw [f_X5_target]) ?_
    rw [hx]
    exact st_ref s2.1
  rcases hr2 with ⟨i, e1, lk⟩ | ⟨e1, lk⟩
  · have t256 := s2.1.1.2.2.2.1.2.1
    have lk1 := lk.1
    obtain ⟨en0, en1, en2, en3, en4⟩ := nr1 i lk
    obtain ⟨t1, t2, t3, t4, t5, t6, t7⟩ := s2.1.1.2.2.2.1.2.2 i lk.1
    have n3' := n3 i lk.1
    have ii : ¬ (nI i < 0 ∨ 256 ≤ (nI i).toNatClampNeg) := n_in (by omega) (by omega)
    have ci : (nI i).toNatClampNeg = i := n_cl (by omega)
    rw [e1]
    refine Tm_no (n_mn (by omega)) ?_
    refine Tm_oP (Sy_pp s2) ?_
    refine Tm_chk ii ?_
    have ev7 : τ2.2.2.1 (pR7 b) (nI i).toNatClampNeg = nI (tb.getD i e0E).2.1 := by rw [ci]; exact t4
    by_cases k0 : (tb.getD i e0E).2.1 = 0
    · obtain ⟨z1, z2, z3⟩ := en1 k0
      rw [if_pos z1] at w2
      refine Tm_yes (by show τ2.2.2.1 (pR7 b) (nI i).toNatClampNeg = 0; rw [ev7, k0]; rfl) ?_
      refine Q_re s2.1 (Q_w (c_tg1 (i := i) s2.1.1 (EvX_k ev s2.1.2.1) n10 (by omega) (by show 2 * (sz + 0) + 3 * (n - tkN T n q) + 100 ≤ _; omega) hnt hp lk.1 ⟨rfl, rfl⟩ rfl w2) (fun r y τ z => ⟨_, _, ⟨z2, z3, en0.2⟩, g1, z⟩))
    · refine Tm_no (by show ¬ τ2.2.2.1 (pR7 b) (nI i).toNatClampNeg = 0; rw [ev7, n_eq0 (by omega)]; exact k0) ?_
      refine b2 _ ?_
      have f1 : ¬ (fd E (tkS T n q)).1 = 1 := fun z => by
        have c : (tb.getD i e0E).2.1 = 1 ∨ (tb.getD i e0E).2.1 = 2 := by omega
        rcases c with c | c
        · have := (en3 c).1; omega
        · have := (en4 c).1; omega
      rw [if_neg f1] at w2
      exact (Option.some.inj w2).symm
  · have f0 := nr2 lk
    rw [if_neg (by omega)] at w2
    rw [e1]
    refine Tm_yes rfl ?_
    exact b2 _ (Option.some.inj w2).symm
/-- ints are copied behind the code -/
theorem CdO_w {src : Nat → Int32} (h : CdO b sz [] σ τ) (hn : sz + ll.length ≤ cdn b τ) (hl : ∀ i, i < ll.length → src (a + i) = ll.getD i 0) : CdO b sz ll σ (uI (uF τ (pR0 (sKd τ b)) (va_cpy src (τ.2.2.1 (pR0 (sKd τ b))) a sz ll.length)) (fP b 1) (nI (sz + ll.length))) := by
  obtain ⟨h1, ⟨h2, h3, h4⟩, h5, h6⟩ := h
  have nb : ¬ (!b) = b := by cases b <;> decide
  refine ⟨CdF_t h1 ⟨fun j hj => uI_o hj, rfl, fun k hk => ⟨updG_other (fun e => by rcases pR0_c (sKd τ b) with z | z <;> omega), rfl⟩, rfl, ⟨rfl, rfl, rfl, rfl⟩, fun _ _ => rfl, rfl⟩, ⟨uI_s, hn, h4⟩, fun i hi => ⟨?_, ?_⟩, fun i hi => ?_⟩
  · rw [← (h5 i hi).1]
    show updG τ.2.2.1 (pR0 (sKd τ b)) (va_cpy src (τ.2.2.1 (pR0 (sKd τ b))) a sz ll.length) (pR0 (sKd τ b)) i = _
    rw [updG_same]
    unfold va_cpy
    rw [if_neg (by omega)]
  · rw [← (h5 i hi).2]
    show updG τ.2.2.1 (pR0 (sKd τ b)) (va_cpy src (τ.2.2.1 (pR0 (sKd τ b))) a sz ll.length) (pR0 (sKd τ (!b))) i = _
    by_cases e : pR0 (sKd τ (!b)) = pR0 (sKd τ b)
    · rw [e, updG_same]
      unfold va_cpy
      rw [if_neg (by omega)]
      show _ = τ.2.2.1 (pR0 (sKd τ (!b))) i
      rw [e]
    · rw [updG_other e]
  · show updG τ.2.2.1 (pR0 (sKd τ b)) (va_cpy src (τ.2.2.1 (pR0 (sKd τ b))) a sz ll.length) (pR0 (sKd τ b)) (sz + i) = _
    rw [updG_same]
    unfold va_cpy
    rw [if_pos (by omega), Nat.add_sub_cancel_left]
    exact hl i hi
theorem c_words41 (h : CdL b sz σ) (hb : L.2.2.1 0 = b) (l2 : L.1 2 = nI a) (l3 : L.1 3 = nI ll.length) (ha : a + ll.length ≤ sN σ 41) (h41 : sN σ 41 ≤ 21504) (hm : sz + ll.length ≤ 36864) (hl : ∀ i, i < ll.length → σ.2.2.1 41 (a + i) = ll.getD i 0) : Tm (fun k => f_X7_words__P__z41 k 0 L σ) (fun r => r.1 = (0, 0) ∧ CoP σ r ∧ CdO b sz ll σ r.2.1) := by
  refine Tm_suc (fun k => by rw [f_X7_words__P__z41]) ?_
  rw [hb, l2, l3]
  refine Tm_oxc (c_widenC (m := ll.length) h rfl rfl hm) (fun r w => by rw [w.1]) (fun r w => ?_)
  obtain ⟨w1, ⟨w2, w2'⟩, w3, w4⟩ := w
  have es : r.2.1.1 (fP b 1) = nI sz := w3.2.1.1
  have e41 := w3.1.2.2.1 41 (by decide)
  rw [es, e41.1, e41.2]
  refine Tm_chk ⟨n_nn (by omega), n_nn (by omega), n_nn (by omega), by rw [n_cl (by omega), n_cl (by omega)]; exact ha, by rw [n_cl (by omega), n_cl (by omega)]; exact w4⟩ ?_
  rw [n_cl (by omega), n_cl (by omega), n_cl (by omega)]
  refine Tm_suc (fun k => by rw [f_X7_words__P__z41]) ?_
  rw [hb, l3]
  have e : (uF r.2.1 (pR0 (sKd r.2.1 b)) (va_cpy (σ.2.2.1 41) (r.2.1.2.2.1 (pR0 (sKd r.2.1 b))) a sz ll.length)).1 (fP b 1) + nI ll.length = nI (sz + ll.length) := by
    show r.2.1.1 (fP b 1) + _ = _
    rw [es, n_add (by omega)]
  rw [e]
  have z := CdO_w (a := a) (src := σ.2.2.1 41) w3 w4 hl
  have ph := Ph_s (σ := r.2.1) (σ' := uI (uF r.2.1 (pR0 (sKd r.2.1 b)) (va_cpy (σ.2.2.1 41) (r.2.1.2.2.1 (pR0 (sKd r.2.1 b))) a sz ll.length)) (fP b 1) (nI (sz + ll.length))) rfl
  refine Tm_some ⟨rfl, ⟨?_, ?_⟩, z⟩
  · show r.2.2.1 + 0 + PhC (uI (uF r.2.1 (pR0 (sKd r.2.1 b)) (va_cpy (σ.2.2.1 41) (r.2.1.2.2.1 (pR0 (sKd r.2.1 b))) a sz ll.length)) (fP b 1) (nI (sz + ll.length))) ≤ _
    omega
  · show r.2.2.2 + 0 + PhS (uI (uF r.2.1 (pR0 (sKd r.2.1 b)) (va_cpy (σ.2.2.1 41) (r.2.1.2.2.1 (pR0 (sKd r.2.1 b))) a sz ll.length)) (fP b 1) (nI (sz + ll.length))) ≤ _
    omega
theorem st_words41 {f : Nat → RS → Option RS} (h : Sy T n b u al σ0 nc0 sz0 mk0 a1 a2 tb o q v mk p szB cs τ) (hb : L.2.2.1 0 = b) (l2 : L.1 2 = nI a) (l3 : L.1 3 = nI ll.length) (ha : a + ll.length ≤ mk) (hm : szB + cs.length + ll.length ≤ 36864) (hl : ∀ i, i < ll.length → τ.2.2.1 41 (a + i) = ll.getD i 0) (cont : ∀ (τ' : CS) (n1 n2 : Nat), Sy T n b u al σ0 nc0 sz0 mk0 (a1 + n1) (a2 + n2) tb o q v mk p szB (cs ++ ll) τ' → Tm (fun k => f k ((0, 0), τ', (n1, n2))) (QPo b u nc0 sz0 mk0 x S σ0 (a1 + n1) (a2 + n2))) : Tm (fun k => ox (f_X7_words__P__z41 k 0 L τ) (f k)) (QPo b u nc0 sz0 mk0 x S σ0 a1 a2) := by
  have m4 := h.1.1.2.2.1
  have m41 := m4.2.1
  refine Tm_ox (c_words41 h.1.1.2.1 hb l2 l3 (by omega) m4.2.2 hm hl) (fun r w nz => absurd (by rw [w.1]) nz) (fun r w e0 => ?_)
  obtain ⟨w1, w2, w3⟩ := w
  have k := cont r.2.1 r.2.2.1 r.2.2.2 (Sy_cd h w3 ⟨w2.1, w2.2⟩)
  have er : ((0, 0), r.2.1, (r.2.2.1, r.2.2.2)) = r := by rw [← w1]
  rw [er] at k
  exact Tm_mono k (fun q z => QPo_s z)
theorem c_emitT (h : QS T n b u al tb o q v mk p sz τ) (hu : u < 42) (tm : TgM τ t0 s ow ks) (ht : t0 + 4 + ks.length ≤ mk) (hg : g = if ow = u then 0 else 1) (how : ow < 42) (hop : op + 1 < 256) (hm : sz + 3 + ks.length ≤ 36864) (l1 : L.1 1 = nI op) (l2 : L.1 2 = nI t0) (l3 : L.1 3 = nI D) : Tm (fun k => f_X5_emitTarget k 0 L τ) (QPo b u tb.length sz mk (some ()) (fun _ _ τ' => QS T n b u al tb o q v mk p (sz + (rwL (op + g) s D ks).length) τ' ∧ (∀ i, i < (rwL (op + g) s D ks).length → cdr b τ' (sz + i) = (rwL (op + g) s D ks).getD i 0)) τ 0 0) := by
  have s0 := Sy_0 h
  have sn := h.2.2.1
  have sn1 := sn.2.1
  have sn2 := sn.2.2
  have e3 := h.2.2.2.2.1.2.1
  obtain ⟨⟨t1, t2, t3, t4⟩, t5⟩ := tm
  have e21 : L.1 2 + 1 = nI (t0 + 1) := by rw [l2, n_add1]
  have b2 : ∀ L' : LV, L'.1 1 = nI op → L'.1 2 = nI t0 → L'.1 3 = nI D → L'.1 100 = nI g → Tm (fun k => f_X5_emitTarget k 2 L' τ) (QPo b u tb.length sz mk (some ()) (fun _ _ τ' => QS T n b u al tb o q v mk p (sz + (rwL (op + g) s D ks).length) τ' ∧ (∀ i, i < (rwL (op + g) s D ks).length → cdr b τ' (sz + i) = (rwL (op + g) s D ks).getD i 0)) τ 0 0) := by
    intro L' j1 j2 j3 j100
    have g1 : g ≤ 1 := by rw [hg]; split <;> omega
    have e23 : L'.1 2 + 3 = nI (t0 + 3) := by rw [j2]; exact n_add (q := 3) (by omega)
    have e24 : L'.1 2 + 4 = nI (t0 + 4) := by rw [j2]; exact n_add (q := 4) (by omega)
    refine Tm_suc (fun k => by rw [f_X5_emitTarget]) ?_
    refine Tm_oP (Sy_pp s0) ?_
    rw [e23, e24, j2, j1, j100, n_add (by omega), j3]
    refine Tm_chk (n_in (by omega) (by omega)) ?_
    rw [n_cl (by omega), t1]
    refine st_emit (op := op + g) s0 rfl rfl (by show sz + 0 + 1 ≤ _; omega) (fun τ1 n1 n2 s1 => ?_)
    refine Tm_oP (Sy_pp s1) ?_
    refine st_word s1 rfl (by show sz + 1 + 1 ≤ _; omega) (fun τ2 n3 n4 s2 => ?_)
    refine Tm_oP (Sy_pp s2) ?_
    have x2 := s2.1.2.1.2.2.2.2.2.2.1
    have m2 := s2.1.1.2.2.1
    have m21 := m2.2.1
    refine Tm_chk (n_in (n := sN τ2 41) (by omega) (by omega)) ?_
    have k3 : τ2.2.2.1 41 (nI (t0 + 3)).toNatClampNeg = nI ks.length := by rw [n_cl (by omega), x2 _ (by omega)]; exact t4
    rw [k3]
    refine st_word s2 rfl (by show sz + 2 + 1 ≤ _; omega) (fun τ3 n5 n6 s3 => ?_)
    refine Tm_oP (Sy_pp s3) ?_
    have x3 := s3.1.2.1.2.2.2.2.2.2.1
    have m3 := s3.1.1.2.2.1
    have m31 := m3.2.1
    refine Tm_chk (n_in (n := sN τ3 41) (by omega) (by omega)) ?_
    have k4 : τ3.2.2.1 41 (nI (t0 + 3)).toNatClampNeg = nI ks.length := by rw [n_cl (by omega), x3 _ (by omega)]; exact t4
    rw [k4]
    refine st_words41 (a := t0 + 4) (ll := kdL ks) s3 rfl rfl (by rw [kdL_l]; rfl) (by rw [kdL_l]; exact ht) (by rw [kdL_l]; show sz + 3 + ks.length ≤ _; exact hm) (fun i hi => ?_) (fun τ4 n7 n8 s4 => ?_)
    · rw [kdL_l] at hi
      rw [x3 _ (by omega), kdL_g ks i hi]; exact t5 i hi
    · exact Tm_some (Qfin s4.1 ⟨s4.1.1, s4.2⟩)
  refine Tm_suc (fun k => by rw [f_X5_emitTarget]) ?_
  rw [e21]
  refine Tm_chk (n_in (by omega) (by omega)) ?_
  rw [n_cl (by omega), t2, e3]
  by_cases ho : ow = u
  · refine Tm_yes (by rw [ho]) ?_
    refine b2 _ l1 l2 l3 ?_
    rw [hg, if_pos ho]; rfl
  · refine Tm_no (by rw [n_eq (by omega) (by omega)]; exact ho) ?_
    refine Tm_suc (fun k => by rw [f_X5_emitTarget]) ?_
    refine b2 _ l1 l2 l3 ?_
    rw [hg, if_neg ho]; rfl
/-- a target is written into code: READ or WRITE -/
theorem st_emitT {f : Nat → RS → Option RS} (h : Sy T n b u al σ0 nc0 sz0 mk0 a1 a2 tb o q v mk p szB cs τ) (hu : u < 42) (tm : TgM τ t0 s ow ks) (ht : t0 + 4 + ks.length ≤ mk) (hg : g = if ow = u then 0 else 1) (how : ow < 42) (hop : op + 1 < 256) (hm : szB + cs.length + 3 + ks.length ≤ 36864) (l1 : L.1 1 = nI op) (l2 : L.1 2 = nI t0) (l3 : L.1 3 = nI D) (cont : ∀ (τ' : CS) (ret : Int32) (n1 n2 : Nat), Sy T n b u al σ0 nc0 sz0 mk0 (a1 + n1) (a2 + n2) tb o q v mk p szB (cs ++ rwL (op + g) s D ks) τ' → XK b u tb.length (szB + cs.length) mk τ τ' → Tm (fun k => f k ((0, ret), τ', (n1, n2))) (QPo b u nc0 sz0 mk0 x S σ0 (a1 + n1) (a2 + n2))) : Tm (fun k => ox (f_X5_emitTarget k 0 L τ) (f k)) (QPo b u nc0 sz0 mk0 x S σ0 a1 a2) := by
  refine st_call (C := True) h.1 (c_emitT h.1.1 hu tm ht hg how hop hm l1 l2 l3) (Or.inr ⟨(), rfl, trivial, fun τ' ret n1 n2 hr xk hc => ?_⟩)
  exact cont τ' ret n1 n2 (Sy_ca h hr.1 xk hc hr.2 h.1.2.2.2.1 h.1.2.2.2.2.2) xk
end CXC
