/-! The class: whiles are read. -/
section CXS
variable {σ σ' σ0 τ τ' τ0 : CS} {L : LV} {b : Bool} {T : Nat → Int32} {n q q' u al o v mk mk' p sz sz' szB szE nc nc0 sz0 mk0 a1 a2 m kk f e s0 ow a t0 g D w st w' st' M nm deep vv np lp N Bd ns k d P : Nat} {y qh qh' y0 y1 wd : Int32} {l l' cs cs' cs2 ll lt lt0 : List Int32} {tb : List Ent} {E : En} {gl : Nat × (Nat → Nat → Prop)} {Vm : Nat → Prop} {Pc : Nat → Nat → Prop} {MD : Nat → Nat → Nat} {md : Nat → Nat} {bt : BT} {ks qs qs' qa qb : List Nat} {lo lo' : Option Nat} {s : SB} {α : Type} {S : α → Int32 → CS → Prop} {x : Option α} {C : Prop}
theorem ZK_w (h : ZK b u nc sz mk σ σ') (hs : sz' ≤ sz) : ZK b u nc sz' mk σ σ' := by
  obtain ⟨d1, d2, d3, d4, d5, d6, d7, ⟨d8, d8'⟩, d9⟩ := h
  exact ⟨d1, d2, d3, d4, d5, fun i hi => d6 i (by omega), d7, ⟨by omega, d8'⟩, d9⟩
theorem ZPo_w {r : RS} (h : ZPo b u nc0 sz mk0 x S σ0 a1 a2 r) (hs : sz' ≤ sz) : ZPo b u nc0 sz' mk0 x S σ0 a1 a2 r := ⟨h.1, h.2.1, h.2.2.1, h.2.2.2.1, ZK_w h.2.2.2.2 hs⟩
/-- behind a statement that began at N, its BEGIN with it -/
def S1W (T : Nat → Int32) (n : Nat) (b : Bool) (u al : Nat) (gl : Nat × (Nat → Nat → Prop)) (Pc : Nat → Nat → Prop) (Vm : Nat → Prop) (tb : List Ent) (o mk N q v w st : Nat) (lo : Option Nat) (qh : Int32) (Bd : Nat) (r : Nat × Nat × Nat) (τ : CS) : Prop := ∃ (cs : List Int32) (qs : List Nat) (ns : Nat), QS T n b u al tb o r.1 r.2.1 mk 0 (N + cs.length) τ ∧ (∀ i, i < cs.length → cdr b τ (N + i) = cs.getD i 0) ∧ ZF b u w r.2.2 lo (hdQ N qh qs) τ ∧ Stm u gl Pc Vm w N lo Bd ns qs cs ∧ JsT N cs qh qs ∧ (2 * cs.length ≤ 7 * (r.1 - q) + 2 ∧ ns + st ≤ r.2.2 + 1 ∧ qs.length ≤ lqN lo ns) ∧ q < r.1 ∧ v ≤ r.2.1
theorem S1W_of {r : Nat × Nat × Nat} (h : S1R T n b u al gl Pc Vm tb o mk N q v w st lo qh Bd 0 r τ) (hb : cdr b τ N = em 0 (nI q)) : S1W T n b u al gl Pc Vm tb o mk N q v w st lo qh Bd r τ := by
  obtain ⟨ll, qs, ns, h1, h2, h3, h4, h5, h6, h7, h8⟩ := h
  have el : (em 0 (nI q) :: ll).length = ll.length + 1 := rfl
  refine ⟨em 0 (nI q) :: ll, qs, ns, by rw [el, show N + (ll.length + 1) = N + 1 + ll.length by omega]; exact h1, fun i hi => ?_, h3, h4, h5, ⟨by rw [el]; omega, h6.2⟩, h7, h8⟩
  cases i with
  | zero => exact hb
  | succ i =>
    rw [el] at hi
    have z := h2 i (by omega)
    rw [show N + (i + 1) = N + 1 + i by omega]
    exact z
/-- a call within that may set the code laid since szB anew -/
theorem zt_callN {β : Type} {z : Option β} {R : β → Int32 → CS → Prop} {g : Nat → Option RS} {f : Nat → RS → Option RS} (h : Zy T n b u al σ0 nc0 sz0 mk0 a1 a2 tb o q v mk w st lo qh szB cs τ) (h0 : sz0 ≤ szB) (t : Tm g (ZPo b u tb.length szB mk z R τ 0 0)) (hx : (z = none ∧ x = none) ∨ ∃ s, z = some s ∧ C ∧ ∀ (τ' : CS) (ret : Int32) (n1 n2 : Nat), R s ret τ' → ZK b u nc0 sz0 mk0 σ0 τ' → (a1 + n1 + PhC τ' ≤ PhC σ0 ∧ a2 + n2 + PhS τ' ≤ PhS σ0) → Tm (fun k => f k ((0, ret), τ', (n1, n2))) (ZPo b u nc0 sz0 mk0 x S σ0 (a1 + n1) (a2 + n2))) : Tm (fun k => ox (g k) (f k)) (ZPo b u nc0 sz0 mk0 x S σ0 a1 a2) := by
  obtain ⟨⟨h1, h2, h3, h4, h5, h6⟩, _⟩ := h
  refine Tm_ox t (fun r w nz => ?_) (fun r w e0 => ?_)
  · rcases hx with ⟨e1, e2⟩ | ⟨s, e1, _⟩
    · rw [e2]
      refine ⟨fun t' e => (by cases e), fun _ => w.2.1 e1, fun z => absurd z nz, fun z => ?_, ZK_t h2 w.2.2.2.2 h4 h0 h6⟩
      have y := w.2.2.2.1 z
      omega
    · exact absurd (w.1 s e1).1 nz
  · rcases hx with ⟨e1, e2⟩ | ⟨s, e1, c, cont⟩
    · exact absurd (w.2.1 e1) (by rw [e0]; decide)
    · have y := w.2.2.1 e0
      have k := cont r.2.1 r.1.2 r.2.2.1 r.2.2.2 (w.1 s e1).2 (ZK_t h2 w.2.2.2.2 h4 h0 h6) ⟨by omega, by omega⟩
      have er : ((0, r.1.2), r.2.1, (r.2.2.1, r.2.2.2)) = r := by
        rw [← e0]
      rw [er] at k
      exact Tm_mono k (fun q z => ZPo_s z)
/-- the state, seen from N on where a BEGIN lies -/
theorem Zy_N (h : QS T n b u al tb o q v mk 0 (N + 1) σ) (zf : ZF b u w st lo qh σ) (hb : cdr b σ N = y0) : Zy T n b u al σ tb.length N mk 0 0 tb o q v mk w st lo qh N [y0] σ := by
  have z := ZK_w (ZK_of (XK_r h)) (show N ≤ N + 1 by omega)
  refine ⟨⟨h, z, ⟨by omega, by omega⟩, Nat.le_refl _, by show N ≤ N + 1; omega, Nat.le_refl _⟩, fun i hi => ?_, zf⟩
  have : i = 0 := by have hi' : i < 1 := hi; omega
  subst this
  exact hb
theorem CxS_l (h : CxS n E b u al gl Vm Pc MD tb lp lo σ) (x : ZK b u nc sz mk σ τ) (hP : P < 100000) : CxS n E b u al gl Vm Pc MD tb (lp + 1) (some P) τ := ⟨StX_k h.1 x, h.2.1, h.2.2.1, ⟨fun z => by omega, fun z => by cases z⟩, fun p e => by cases e; exact hP⟩
theorem CxS_k (h : CxS n E b u al gl Vm Pc MD tb lp lo σ) (x : ZK b u nc sz mk σ τ) : CxS n E b u al gl Vm Pc MD tb lp lo τ := ⟨StX_k h.1 x, h.2⟩
/-- statements of one kind, read by the method m -/
def PSk (T : Nat → Int32) (n : Nat) (b : Bool) (u al : Nat) (MD : Nat → Nat → Nat) (f nt m : Nat) : Prop := ∀ (E : En) (lp o q v : Nat) (pe : Int32) (i l : Nat) (bt : BT) (s : SB) (y : Option ST), q ≤ n → v ≤ 60 → s.1 ≤ 400 → 1 ≤ bt.1 → ¬ o = 20 → ¬ tkK T n q = 25 → GS T n MD f nt E lp o q v pe i l bt s = some y → ∃ z : Option (Nat × Nat × Nat), SemS T n y z ∧ ∀ (d : Nat) (gl : Nat × (Nat → Nat → Prop)) (Pc : Nat → Nat → Prop) (Vm : Nat → Prop) (tb : List Ent) (mk N w : Nat) (lo : Option Nat) (qh : Int32) (σ : CS) (L : LV), QS T n b u al tb o q v mk 0 (N + 1) σ → ZF b u w s.1 lo qh σ → cdr b σ N = em 0 (nI q) → CxS n E b u al gl Vm Pc MD tb lp lo σ → BdB n o q v mk N w tb.length → 4 * (20 - o) ≤ d + 1 → (nt = 4 → L.1 1 = nI N) → Tm (fun k => f_F3 k d m 0 L σ) (ZPo b u tb.length N mk z (fun r _ τ => S1W T n b u al gl Pc Vm tb o mk N q v w s.1 lo qh (bdO o v) r τ) σ 0 0)
theorem g_mo0 {r : RT} (hq : q ≤ n) (hv : v ≤ 60) (hb : 1 ≤ bt.1) (h : G T n f 0 E o q v 0 0 0 0 bt = some (some r)) : (q ≤ r.1 ∧ r.1 ≤ n) ∧ (v ≤ r.2.1 ∧ r.2.1 ≤ 60) ∧ bt.1 ≤ r.2.2.2.2.1.1 := by
  have z := (g_mono T n f 0 E o q v 0 0 0 0 bt r hq hv h 1 hb (Nat.le_refl _) trivial).1
  obtain ⟨a1, a2, a3, a4, a5, _⟩ := z
  exact ⟨⟨a1, a2⟩, ⟨a3, by omega⟩, a5⟩
theorem n_ss0 (a j : Nat) (h : a + j < 2147483648) : nI a - nI (a + j) = nI 0 - nI j := n_ss a 0 j (by omega) h
theorem wh_0 (k d : Nat) (L : LV) (σ : CS) : f_F3 (k + 1) d 5 0 L σ = (ox (f_X5_opens k 0 lZ σ) (fun r1 => ox (f_X5_exp k 0 (lI lZ 1 0) r1.2.1) (fun r2 => ox (f_X5_expect k 0 (lI lZ 1 44) r2.2.1) (fun r3 => oP (sPp r3.2.1) (fun b4 => ox (f_X7_emit__P k 0 (lI (lI (lB lZ 0 b4) 1 4) 2 0) r3.2.1) (fun r5 => of d (fun e6 => ox (f_F3 k e6 3 0 (lI lZ 1 ((L.1 1))) r5.2.1) (fun r6 => oP (sPp r6.2.1) (fun b7 => oP (sPp r6.2.1) (fun b8 => op (y_X7_aim__P k 0 (lI (lI (lB lZ 0 b7) 1 r5.1.2) 2 ((r6.2.1.1 (fP b8 1)))) r6.2.1) (fun r9 => some ((0, 0), r9.2, (0, 0))))))))))))) := rfl
theorem c_while (pb : PBk T n b u al MD f) : PSk T n b u al MD (f + 1) 4 5 := by
  intro E lp o q v pe i l bt s y hq hv hs hB1 ho h25 hG
  have hG' : hT T n q (fun q1 => lb (G T n f 0 E (o + 1) q1 v 0 0 0 0 (bNode bt 47 0 0 0)) (fun r => hW T n 44 r.1 (fun q2 => hb (GS T n MD f 0 E (lp + 1) (o + 1) q2 r.2.1 (nI bt.1) 0 0 (bSet r.2.2.2.2.1 5 bt.1 (nI r.2.2.2.1)) s) (fun t => hE T n t.1 (fun q3 => some (some (q3, t.2.1, 0, bt.1, bSet t.2.2.2.2.1 6 bt.1 (hd t.2.2.2.1), t.2.2.2.2.2))))))) = some y := hG
  have tb1 := tkN_b T n q hq
  have g1 := tb1.2.2.2 h25
  rcases hT_any hG' with ⟨w1, w2⟩ | ⟨w1, w2⟩
  · refine ⟨none, Or.inl ⟨rfl, w2⟩, fun d gl Pc Vm tb mk N w lo qh σ L h zf hbg cx bd hd l1 => ?_⟩
    have s0 := Zy_N h zf hbg
    refine Tm_suc (fun k => wh_0 k _ _ _) ?_
    exact zt_opens (C := False) s0 (Or.inl ⟨fun z => z.2 w1, rfl⟩) (fun _ _ _ _ c _ _ => c.elim)
  -- the condition
  have cond : ∀ (d : Nat) (gl : Nat × (Nat → Nat → Prop)) (Pc : Nat → Nat → Prop) (Vm : Nat → Prop) (tb : List Ent) (mk N w : Nat) (lo : Option Nat) (qh : Int32) (σ : CS) (L : LV) (z0 : Option RT) (zF : Option (Nat × Nat × Nat)), G T n f 0 E (o + 1) (tkN T n q) v 0 0 0 0 (bNode bt 47 0 0 0) = some z0 → QS T n b u al tb o q v mk 0 (N + 1) σ → ZF b u w s.1 lo qh σ → cdr b σ N = em 0 (nI q) → CxS n E b u al gl Vm Pc MD tb lp lo σ → BdB n o q v mk N w tb.length → (z0 = none → zF = none) → (∀ (r : RT), z0 = some r → ∀ (τ : CS) (n1 n2 : Nat) (co : List Int32), Zy T n b u al σ tb.length N mk n1 n2 tb (o + 1) r.1 r.2.1 mk w s.1 lo qh N ([em 0 (nI q)] ++ co) τ → Sgm u 0 gl Vm 1 co → 2 * co.length ≤ 3 * (r.1 - tkN T n q) + 1 → tkN T n q < r.1 → v ≤ r.2.1 → Tm (fun k => ox (f_X5_expect k 0 (lI lZ 1 44) τ) (fun r3 => oP (sPp r3.2.1) (fun b4 => ox (f_X7_emit__P k 0 (lI (lI (lB lZ 0 b4) 1 4) 2 0) r3.2.1) (fun r5 => of d (fun e6 => ox (f_F3 k e6 3 0 (lI lZ 1 ((L.1 1))) r5.2.1) (fun r6 => oP (sPp r6.2.1) (fun b7 => oP (sPp r6.2.1) (fun b8 => op (y_X7_aim__P k 0 (lI (lI (lB lZ 0 b7) 1 r5.1.2) 2 ((r6.2.1.1 (fP b8 1)))) r6.2.1) (fun r9 => some ((0, 0), r9.2, (0, 0)))))))))) ) (ZPo b u tb.length N mk zF (fun r _ τ => S1W T n b u al gl Pc Vm tb o mk N q v w s.1 lo qh (bdO o v) r τ) σ n1 n2)) → Tm (fun k => f_F3 k d 5 0 L σ) (ZPo b u tb.length N mk zF (fun r _ τ => S1W T n b u al gl Pc Vm tb o mk N q v w s.1 lo qh (bdO o v) r τ) σ 0 0) := by
    intro d gl Pc Vm tb mk N w lo qh σ L z0 zF hz h zf hbg cx bd hn hs'
    have s0 := Zy_N h zf hbg
    obtain ⟨bd1, bd2, bd3, bd4⟩ := bd
    have n10 := cx.1.2.2.2.2
    refine Tm_suc (fun k => wh_0 k _ _ _) ?_
    refine zt_opens (C := True) s0 (Or.inr ⟨⟨ho, w1⟩, trivial⟩) (fun τ1 ret1 n1 n2 _ s1 xk1 => ?_)
    have bdx : BdX n (o + 1) (tkN T n q) v mk 0 (N + [em 0 (nI q)].length) tb.length := ⟨n10, by show 2 * (N + 1) + _ + _ ≤ _; omega, by omega, bd3, by omega⟩
    cases z0 with
    | none =>
      rw [hn rfl]
      exact zt_exp (C := True) s1 (EvX_z cx.1.1 s1.1.2.1) bdx rfl hz (Or.inl ⟨rfl, rfl⟩) (fun _ _ _ _ _ _ z => by cases z)
    | some r =>
      refine zt_exp (C := True) s1 (EvX_z cx.1.1 s1.1.2.1) bdx rfl hz (Or.inr ⟨r, rfl, trivial⟩) (fun τ2 ret2 n3 n4 r' co hzz _ s2 xk2 sg ln lt lv tg => ?_)
      cases hzz
      exact hs' r rfl τ2 _ _ co s2 sg ln lt lv
  rcases lb_any w2 with ⟨w3, w4⟩ | ⟨r, w3, w4⟩
  · exact ⟨none, Or.inl ⟨rfl, w4⟩, fun d gl Pc Vm tb mk N w lo qh σ L h zf hbg cx bd hd l1 => cond d gl Pc Vm tb mk N w lo qh σ L none none w3 h zf hbg cx bd (fun _ => rfl) (fun r e => by cases e)⟩
  have mo := g_mo0 (bt := bNode bt 47 0 0 0) tb1.2.1 hv (by rw [bNode_1]; omega) w3
  rcases hW_any w4 with ⟨w5, w6⟩ | ⟨w5, w6⟩
  · refine ⟨none, Or.inl ⟨rfl, w6⟩, fun d gl Pc Vm tb mk N w lo qh σ L h zf hbg cx bd hd l1 => cond d gl Pc Vm tb mk N w lo qh σ L (some r) none w3 h zf hbg cx bd (fun e => by cases e) (fun r' e τ n1 n2 co s2 sg ln lt lv => ?_)⟩
    cases e
    exact zt_expect (kk := 44) (C := False) s2 (by decide) rfl (Or.inl ⟨w5, rfl⟩) (fun _ _ _ _ c _ _ => c.elim)
  have tb2 := tkN_b T n r.1 mo.1.2
  have g2 := tb2.2.2.2 (by omega)
  have gz : ∃ x, GS T n MD f 0 E (lp + 1) (o + 1) (tkN T n r.1) r.2.1 (nI bt.1) 0 0 (bSet r.2.2.2.2.1 5 bt.1 (nI r.2.2.2.1)) s = some x := by
    rcases hb_any w6 with ⟨y1, _⟩ | ⟨_, y1, _⟩
    · exact ⟨_, y1⟩
    · exact ⟨_, y1⟩
  obtain ⟨x, hx⟩ := gz
  rw [hx] at w6
  have b1 : 1 ≤ (bSet r.2.2.2.2.1 5 bt.1 (nI r.2.2.2.1)).1 := by
    have z := mo.2.2
    rw [bNode_1] at z
    show 1 ≤ r.2.2.2.2.1.1
    omega
  obtain ⟨z, bz, run⟩ := pb E (lp + 1) (o + 1) (tkN T n r.1) r.2.1 (nI bt.1) 0 0 _ s x tb2.2.1 mo.2.1.2 hs b1 hx
  refine ⟨lbZ T n z, hE_z bz w6, fun d gl Pc Vm tb mk N w lo qh σ L h zf hbg cx bd hd l1 => cond d gl Pc Vm tb mk N w lo qh σ L (some r) _ w3 h zf hbg cx bd (fun e => by cases e) (fun r' e τ n1 n2 co s2 sg ln lt lv => ?_)⟩
  cases e
  obtain ⟨bd1, bd2, bd3, bd4⟩ := bd
  have n10 := cx.1.2.2.2.2
  have o20 := h.2.2.2.2.2.1.2
  have lco : ([em 0 (nI q)] ++ co).length = co.length + 1 := by rw [List.length_append]; show 1 + co.length = _; omega
  refine zt_expect (kk := 44) (C := True) s2 (by decide) rfl (Or.inr ⟨w5, trivial⟩) (fun τ3 ret3 n3 n4 _ s3 xk3 => ?_)
  refine Tm_oP (Zy_pp s3) ?_
  refine zt_emit (op := 4) s3 rfl rfl (by rw [lco]; omega) (fun τ4 n5 n6 s4 xk4 => ?_)
  have s4' : Zy T n b u al σ tb.length N mk (n1 + n3 + n5) (n2 + n4 + n6) tb (o + 1) (tkN T n r.1) r.2.1 mk w s.1 lo qh N ([em 0 (nI q)] ++ co ++ [em 4 0]) τ4 := s4
  have l4 : ([em 0 (nI q)] ++ co ++ [em 4 0]).length = co.length + 2 := by rw [List.length_append, lco]; rfl
  obtain ⟨d1, hd1⟩ : ∃ d1, d = d1 + 2 := ⟨d - 2, by omega⟩
  subst hd1
  refine Tm_d ?_
  have bdb : BdB n (o + 1) (tkN T n r.1) r.2.1 mk (N + (co.length + 2)) w tb.length := ⟨by omega, by omega, by omega, by omega⟩
  have qs4 : QS T n b u al tb (o + 1) (tkN T n r.1) r.2.1 mk 0 (N + (co.length + 2)) τ4 := by have z := s4'.1.1; rw [l4] at z; exact z
  refine zt_callZ (C := True) s4' (by rw [l4]; exact c_loopBody (gl := gl) (Pc := Pc) (Vm := Vm) (P := N) (z := z) (fun σ' L' hq' zf' zk' => run d1 gl Pc Vm tb mk (N + (co.length + 2)) w (some N) 0 σ' L' hq' zf' (CxS_l (CxS_k cx s4'.1.2.1) zk' (by omega)) bdb (by omega)) qs4 s4'.2.2 n10 (by omega) (by omega) (l1 rfl)) ?_
  cases hz : lbZ T n z with
  | none => exact Or.inl ⟨rfl, rfl⟩
  | some t =>
    refine Or.inr ⟨t, rfl, trivial, fun τ5 ret5 n7 n8 hr zk5 hc5 => ?_⟩
    obtain ⟨cl, bo, qb, nb, r1, r2, r3, r4, ⟨r5, r6, r7, r8⟩, ⟨r9, r9'⟩, ra, rb⟩ := hr
    have s5 := Zy_ca (ll := cl) s4' (by rw [l4]; exact r1) zk5 hc5 (by rw [l4]; exact r2) (Nat.le_refl _) (Nat.le_refl _) r3
    have l5 : ([em 0 (nI q)] ++ co ++ [em 4 0] ++ cl).length = co.length + bo.length + 3 := by rw [List.length_append, l4]; omega
    have go5 := tk_go s5.1.1
    refine Tm_oP (Zy_pp s5) (Tm_oP (Zy_pp s5) ?_)
    have e5 : τ5.1 (fP b 1) = nI (N + (co.length + bo.length + 3)) := by have z := s5.1.1.2.1.1; rw [l5] at z; exact z
    have gc : ([em 0 (nI q)] ++ co ++ [em 4 0] ++ cl).getD (co.length + 1) 0 = em 4 0 := by
      have e1 : [em 0 (nI q)] ++ co ++ [em 4 0] ++ cl = ([em 0 (nI q)] ++ co) ++ (em 4 0 :: cl) := by simp only [List.append_assoc]; rfl
      have z := gd_r (a := [em 0 (nI q)] ++ co) (b := em 4 0 :: cl) 0
      rw [lco] at z
      rw [e1]; exact z
    have e4 : nI (N + ([em 0 (nI q)] ++ co).length) = nI (N + (co.length + 1)) := by rw [lco]
    refine Tm_op (c_aim (op := 4) (x := 0) (h := co.length + 1) (Sy_z s5) (Nat.le_refl _) (by rw [l5]; omega) (by decide) gc rfl e4) (fun r9x z9 => ?_)
    have s6 := Zy_s s5 z9 (Nat.le_refl _)
    have ew : (lI (lI (lB lZ 0 b) 1 (nI (N + ([em 0 (nI q)] ++ co).length))) 2 (τ5.1 (fP b 1))).1 2 - (lI (lI (lB lZ 0 b) 1 (nI (N + ([em 0 (nI q)] ++ co).length))) 2 (τ5.1 (fP b 1))).1 1 = nI (bo.length + 2) := by
      show τ5.1 (fP b 1) - nI (N + ([em 0 (nI q)] ++ co).length) = _
      rw [e5, e4, n_sub (by omega) (by omega)]
      exact congrArg nI (by omega)
    have s6' : Zy T n b u al σ tb.length N mk (n1 + n3 + n5 + n7 + 0) (n2 + n4 + n6 + n8 + 0) tb o t.1 t.2.1 mk w t.2.2 lo qh N (([em 0 (nI q)] ++ co ++ [em 4 0] ++ cl).set (co.length + 1) (em 4 (nI (bo.length + 2)))) r9x.2 := by
      rw [← ew]; exact s6
    generalize hcs : ([em 0 (nI q)] ++ co ++ [em 4 0] ++ cl).set (co.length + 1) (em 4 (nI (bo.length + 2))) = cs at *
    have lcs : cs.length = co.length + bo.length + 3 := by rw [← hcs, List.length_set, l5]
    have gi : ∀ i, ¬ i = co.length + 1 → cs.getD i 0 = ([em 0 (nI q)] ++ co ++ [em 4 0] ++ cl).getD i 0 := fun i hi => by rw [← hcs, gd_set, if_neg (fun z => hi z.1)]
    have gcl : ∀ i, cs.getD (co.length + 2 + i) 0 = cl.getD i 0 := fun i => by
      rw [gi _ (by omega)]
      have z := gd_r (a := [em 0 (nI q)] ++ co ++ [em 4 0]) (b := cl) i
      rw [l4] at z
      exact z
    have hbo : bdO (o + 1) r.2.1 + 1 ≤ bdO o v := by unfold bdO; omega
    have ty : Stm u gl Pc Vm w N lo (bdO o v) (nb + 1) [] cs := by
      refine Stm_wh (pl := q) (co := co) (bo := bo) (qb := qb) (nb := nb) sg r4 hbo (by omega) lcs ?_ (fun i hi => ?_) ?_ (fun i hi hn => ?_) (fun i hi => ?_) ?_
      · rw [gi _ (by omega)]; rfl
      · rw [gi _ (by omega)]
        have e1 : [em 0 (nI q)] ++ co ++ [em 4 0] ++ cl = [em 0 (nI q)] ++ (co ++ ([em 4 0] ++ cl)) := by simp only [List.append_assoc]
        have z := gd_r (a := [em 0 (nI q)]) (b := co ++ ([em 4 0] ++ cl)) i
        rw [e1]
        exact z.trans (gd_l hi)
      · rw [← hcs, gd_set, if_pos ⟨rfl, by rw [l5]; omega⟩]
      · rw [gcl]; exact r6 i hi hn
      · rw [gcl]; exact r7 i hi
      · rw [gcl, r8, show N + (co.length + 2) + bo.length = N + (co.length + bo.length + 2) by omega, n_ss0 _ _ (by omega)]
    refine Tm_some (Zfin s6' ⟨cs, [], nb + 1, s6'.1.1, s6'.2.1, s6'.2.2, ty, trivial, ⟨by rw [lcs]; omega, by omega, Nat.zero_le _⟩, by omega, by omega⟩)
end CXS
