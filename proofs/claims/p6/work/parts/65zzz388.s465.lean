/-! The class: formers are read. -/
section CVX
variable {σ σ' σ0 τ τ' : CS} {L : LV} {b : Bool} {T : Nat → Int32} {n q q' u al o v mk p sz szB nc0 sz0 mk0 a1 a2 m kk f e t nc r0 c g : Nat} {y w : Int32} {l l' cs cs' : List Int32} {tb tb' es : List Ent} {ns : List Nm} {α : Type} {S : α → Int32 → CS → Prop} {C : Prop} {E E' : En} {gl : Nat × (Nat → Nat → Prop)} {Vm Vm' : Nat → Prop} {bt : BT}
theorem EvX_at {sz' mk' : Nat} (h : EvX E' b u al gl Vm' tb' τ) (h0 : EvX E b u al gl Vm tb σ) (x : XK b u nc sz' mk' σ τ') : EvX E' b u al gl Vm' tb' τ' := ⟨h.1, PrR_k h0.2.1 x, h.2.2⟩
theorem set_last (cs : List Int32) (x w : Int32) : (cs ++ [x]).set cs.length w = cs ++ [w] := by
  rw [List.set_append_right _ _ (Nat.le_refl _), Nat.sub_self]; rfl
/-- the newest instruction is aimed -/
theorem c_aimL {op : Nat} {x : Int32} (s : Sy T n b u al σ0 nc0 sz0 mk0 a1 a2 tb o q v mk p szB (cs ++ [em op x]) τ) (hs : sz0 ≤ szB) (ho : op < 256) (hb : L.2.2.1 0 = b) (h1 : L.1 1 = nI (szB + cs.length)) : Tm (fun k => y_X7_aim__P k 0 L τ) (fun r => Sy T n b u al σ0 nc0 sz0 mk0 a1 a2 tb o q v mk p szB (cs ++ [em op (L.1 2 - L.1 1)]) r.2) := by
  have z := c_aim (h := cs.length) s hs (by rw [List.length_append]; show cs.length < cs.length + 1; omega) ho (gd_r (a := cs) (b := [em op x]) 0) hb h1
  refine Tm_mono z (fun r w => ?_)
  rw [set_last] at w
  exact w
theorem st_clear {p0 : Nat} {f' : Nat → RS → Option RS} {x : Option α} (h : Sy T n b u al σ0 nc0 sz0 mk0 a1 a2 tb o q v mk p szB cs τ) (h1 : L.1 1 = nI p0) (hp : p0 ≤ p ∧ p ≤ 1000) (hm : szB + cs.length + 2 ≤ 36864) (cont : ∀ (τ' : CS) (ret : Int32) (m1 m2 : Nat), Sy T n b u al σ0 nc0 sz0 mk0 (a1 + m1) (a2 + m2) tb o q v mk p0 szB (cs ++ [em 68 (nI p0), nI (p - p0)]) τ' → Tm (fun k => f' k ((0, ret), τ', (m1, m2))) (QPo b u nc0 sz0 mk0 x S σ0 (a1 + m1) (a2 + m2))) : Tm (fun k => ox (f_X5_clear k 0 L τ) (f' k)) (QPo b u nc0 sz0 mk0 x S σ0 a1 a2) := by
  have s0 := Sy_0 h.1.1
  have t : Tm (fun k => f_X5_clear k 0 L τ) (QPo b u tb.length (szB + cs.length) mk (some ()) (fun _ _ τ' => QS T n b u al tb o q v mk p0 (szB + cs.length + [em 68 (nI p0), nI (p - p0)].length) τ' ∧ ∀ i, i < [em 68 (nI p0), nI (p - p0)].length → cdr b τ' (szB + cs.length + i) = [em 68 (nI p0), nI (p - p0)].getD i 0) τ 0 0) := by
    refine Tm_suc (fun k => by rw [f_X5_clear]) ?_
    refine Tm_oP (Sy_pp s0) ?_
    refine st_emit (op := 68) s0 rfl rfl (by show szB + cs.length + 0 + 1 ≤ _; omega) (fun τ2 m1 m2 s2 => ?_)
    refine Tm_oP (Sy_pp s2) (Tm_oP (Sy_pp s2) ?_)
    refine st_word s2 rfl (by show szB + cs.length + 1 + 1 ≤ _; omega) (fun τ3 m3 m4 s3 => ?_)
    refine Tm_oP (Sy_pp s3) ?_
    have e19 : τ2.1 (fP b 19) = nI p := s2.1.1.2.2.2.2.2.2.2
    have ew : τ2.1 (fP b 19) - L.1 1 = nI (p - p0) := by rw [e19, h1, n_sub (by omega) hp.1]
    have s3' : Sy T n b u al τ tb.length (szB + cs.length) mk (0 + m1 + m3) (0 + m2 + m4) tb o q v mk p (szB + cs.length) [em 68 (nI p0), nI (p - p0)] τ3 := by
      rw [← ew, ← h1]; exact s3
    rw [h1]
    have s4 := Sy_p (p' := p0) s3'
    exact Tm_some (Qfin s4.1 ⟨s4.1.1, s4.2⟩)
  exact st_call (C := True) h.1 t (Or.inr ⟨(), rfl, trivial, fun τ' ret n1 n2 hq xk hc => cont τ' ret n1 n2 (Sy_ca h hq.1 xk hc hq.2 h.1.2.2.2.1 h.1.2.2.2.2.2)⟩)
/-- a former, but for its bracket -/
def gFm (T : Nat → Int32) (n f : Nat) (E : En) (o q v tu : Nat) (b : BT) : RG := gT T n q (fun q2 => gb (G T n f 17 E o q2 v 0 0 E.2.2.1.length 0 b) (fun r =>
  if tkK T n r.1 = 15 then gT T n r.1 (fun q3 => gb (G T n f 0 (seeN E r.2.2.2.2.2) o q3 r.2.1 0 0 0 0 r.2.2.2.2.1) (fun s => gW T n 14 s.1 (fun q4 => gb (G T n f 0 (seeN E r.2.2.2.2.2) o q4 s.2.1 0 0 0 0 s.2.2.2.2.1) (fun t => some (some (t.1, t.2.1, 0, t.2.2.2.2.1.1, bWrap t.2.2.2.2.1 13 (if tu = 8 then 1 else 0) (hd r.2.2.2.1) (nI s.2.2.2.1) (nI t.2.2.2.1), []))))))
  else gW T n 14 r.1 (fun q4 => gb (G T n f 0 (seeN E r.2.2.2.2.2) o q4 r.2.1 0 0 0 0 r.2.2.2.2.1) (fun t => some (some (t.1, t.2.1, 0, t.2.2.2.2.1.1, bWrap t.2.2.2.2.1 13 (if tu = 8 then 1 else 0) (hd r.2.2.2.1) (-1) (nI t.2.2.2.1), []))))))
/-- behind what lies within brackets: a former, a span, members -/
def FmR (T : Nat → Int32) (n : Nat) (b : Bool) (u al : Nat) (gl : Nat × (Nat → Nat → Prop)) (Vm : Nat → Prop) (tb : List Ent) (o mk p sz q v : Nat) (r : RT) (τ : CS) : Prop := ∃ cs : List Int32, QS T n b u al tb o r.1 r.2.1 mk p (sz + cs.length) τ ∧ (∀ i, i < cs.length → cdr b τ (sz + i) = cs.getD i 0) ∧ Sgm u p gl Vm 1 cs ∧ 2 * cs.length ≤ 3 * (r.1 - q) + 1 ∧ q < r.1 ∧ v ≤ r.2.1
theorem fm_0 (k d : Nat) (L : LV) (σ : CS) : f_F2 (k + 1) d 3 0 L σ = (ox (f_X2_advance k 0 lZ σ) (fun r1 => oP (sPp r1.2.1) (fun b2 => oP (sPp r1.2.1) (fun b3 => oP (sPp r1.2.1) (fun b4 => ox (f_X7_emit__P k 0 (lI (lI (lB lZ 0 b4) 1 80) 2 0) r1.2.1) (fun r5 => of d (fun e6 => ox (f_F2 k e6 5 0 (lI lZ 1 0) r5.2.1) (fun r6 => if ((r6.2.1.1 3702)) = 19 then (ox (f_X2_advance k 0 lZ r6.2.1) (fun r8 => of d (fun e9 => ox (f_F2 k e9 1 0 (lI lZ 1 0) r8.2.1) (fun r9 => oP (sPp r9.2.1) (fun b10 => oP (sPp r9.2.1) (fun b11 => ox (f_X7_emit__P k 0 (lI (lI (lB lZ 0 b11) 1 4) 2 0) r9.2.1) (fun r12 => op (y_X7_aim__P k 0 (lI (lI (lB lZ 0 b10) 1 r12.1.2) 2 ((r6.2.1.1 4015))) r12.2.1) (fun r13 => f_F2 k d 3 1 (lI (lI (lI (lI L 2 ((r1.2.1.1 (fP b2 11)))) 3 ((r1.2.1.1 (fP b3 19)))) 4 ((r6.2.1.1 4014))) 5 ((r6.2.1.1 4015))) r13.2)))))))) else (f_F2 k d 3 1 (lI (lI (lI (lI L 2 ((r1.2.1.1 (fP b2 11)))) 3 ((r1.2.1.1 (fP b3 19)))) 4 ((r6.2.1.1 4014))) 5 ((r6.2.1.1 4015))) r6.2.1))))))))) := rfl
theorem fm_1 (k d : Nat) (L : LV) (σ : CS) : f_F2 (k + 1) d 3 1 L σ = (ox (f_X5_expect k 0 (lI lZ 1 18) σ) (fun r1 => of d (fun e2 => ox (f_F2 k e2 1 0 (lI lZ 1 0) r1.2.1) (fun r2 => oP (sPp r2.2.1) (fun b3 => ox (f_X7_emit__P k 0 (lI (lI (lB lZ 0 b3) 1 ((81 + ((L.1 1))))) 2 0) r2.2.1) (fun r4 => oP (sPp r4.2.1) (fun b5 => oP (sPp r4.2.1) (fun b6 => ox (f_X7_emit__P k 0 (lI (lI (lB lZ 0 b6) 1 3) 2 0) r4.2.1) (fun r7 => op (y_X7_aim__P k 0 (lI (lI (lB lZ 0 b5) 1 r7.1.2) 2 ((L.1 5))) r7.2.1) (fun r8 => oP (sPp r8.2) (fun b9 => oP (sPp r8.2) (fun b10 => if ¬ (((((L.1 4)) + 1)) < 0 ∨ (sN r8.2 (pR0 ((sKd r8.2 b9)))) ≤ ((((L.1 4)) + 1)).toNatClampNeg) then (ox (f_X5_clear k 0 (lI lZ 1 ((L.1 3))) (uA r8.2 (pR0 ((sKd r8.2 b9))) ((((L.1 4)) + 1)).toNatClampNeg ((((r8.2.1 (fP b10 1))) - ((L.1 4)))))) (fun r12 => oP (sPp r12.2.1) (fun b13 => ox (f_X7_emit__P k 0 (lI (lI (lB lZ 0 b13) 1 ((83 + ((L.1 1))))) 2 0) r12.2.1) (fun r14 => oP (sPp r14.2.1) (fun b15 => some ((0, 0), (uI r14.2.1 (fP b15 11) ((L.1 2))), (0, 0))))))) else none)))))))))))) := rfl
theorem c_former {tt tu : Nat} {x : Option RT} (ht : tt = 0 ∨ tt = 1) (h1 : L.1 1 = nI tt) (px : ∀ f', f' ≤ f → ∀ e', PXp T n b u al f' e') (h : QS T n b u al tb o q v mk p sz σ) (ev : EvX E b u al gl Vm tb σ) (bd : BdX n o q v mk p sz tb.length) (hk : tkK T n q = 45) (hG : gFm T n f E o q v tu bt = some x) (hd0 : 6 * (20 - o) + 8 ≤ e) : Tm (fun k => f_F2 k (e + 2) 3 0 L σ) (QPo b u tb.length sz mk x (fun r _ τ => FmR T n b u al gl Vm tb o mk p sz q v r τ) σ 0 0) := by
  have s0 := Sy_0 h
  have go := tk_go h
  have b22 := bd.2.1
  have n10 := bd.1
  have w3 := tk_wl (m := 3) h hk (by decide) rfl
  unfold gFm at hG
  refine Tm_suc (fun k => fm_0 k _ _ _) ?_
  refine st_advY s0 (gT_any hG) (fun τ1 r1 er c1 s1 => ?_)
  rw [er]
  have e11 : τ1.1 (fP b 11) = nI tb.length := s1.1.1.2.2.2.1.1
  have e19 : τ1.1 (fP b 19) = nI p := s1.1.1.2.2.2.2.2.2.2
  refine Tm_oP (Sy_pp s1) (Tm_oP (Sy_pp s1) (Tm_oP (Sy_pp s1) ?_))
  refine st_emit (op := 80) s1 rfl rfl (by show sz + 0 + 1 ≤ _; omega) (fun τ2 m1 m2 s2 => ?_)
  have s2' : Sy T n b u al σ tb.length sz mk (0 + m1) (0 + m2) tb o (tkN T n q) v mk p sz [em 80 0] τ2 := s2
  refine Tm_d ?_
  have bd2 : BdX n o (tkN T n q) v mk p (sz + 1) tb.length := BdX_g bd (by omega) go.2.1 (Nat.le_refl _) (Nat.le_refl _) (by omega)
  have gi : ∃ z, G T n f 17 E o (tkN T n q) v 0 0 E.2.2.1.length 0 bt = some z := by
    rcases gb_any c1 with ⟨y1, y2⟩ | ⟨r4, y1, y2⟩
    · exact ⟨_, y1⟩
    · exact ⟨_, y1⟩
  obtain ⟨z, hz⟩ := gi
  refine st_call (C := True) s2'.1 (c_iters (fun f' hf' => px f' hf' e) s2'.1.1 (EvX_k ev s2'.1.2.1) bd2 rfl hz hd0) ?_
  rcases gb_any c1 with ⟨y1, y2⟩ | ⟨r, y1, y2⟩
  · rw [hz] at y1
    exact Or.inl ⟨Option.some.inj y1, y2⟩
  rw [hz] at y1
  refine Or.inr ⟨r, Option.some.inj y1, trivial, fun τ3 ret3 m3 m4 hr xk3 hc3 => ?_⟩
  obtain ⟨es, cs, p', xm, e0, nl, i1, i2, row, hs, ⟨i4, i5⟩, ev3, bd3, ln3, lt3, lv3⟩ := hr
  have s3 : Sy T n b u al σ tb.length sz mk (0 + m1 + m3) (0 + m2 + m4) (tb ++ es) o r.1 r.2.1 mk p' sz (em 80 0 :: cs) τ3 := Sy_ca s2' i1 xk3 hc3 i2 (by rw [List.length_append]; omega) s2'.1.2.2.2.2.2
  have go3 := tk_go s3.1.1
  have bd3' : BdX n o r.1 r.2.1 mk p' (sz + 1 + cs.length) (tb ++ es).length := bd3
  have fl : fstP (e0 :: nl) + 2 ≤ cs.length := by
    obtain ⟨e1, e2, e3⟩ := fst_m (nl := e0 :: nl) (by show 1 ≤ nl.length + 1; omega)
    have := RwL_le _ row.2.2.2.1 e1 e2
    omega
  have el0 : e0.1 + 2 ≤ cs.length := RwL_le _ row.2.2.2.1 e0 List.mem_cons_self
  have pp := row.1
  -- from the colon on
  have b1 : ∀ (L' : LV) (τ : CS) (a1 a2 q1 v1 : Nat) (bt1 : BT) (bt2 : RT → BT) (ca : List Int32), L'.1 1 = nI tt → L'.1 2 = nI tb.length → L'.1 3 = nI p → L'.1 4 = nI (sz + 1 + fstP (e0 :: nl)) → L'.1 5 = nI (sz + 1 + e0.1) → gW T n 14 q1 (fun q4 => gb (G T n f 0 (seeN E r.2.2.2.2.2) o q4 v1 0 0 0 0 bt1) (fun t => some (some (t.1, t.2.1, 0, t.2.2.2.2.1.1, bt2 t, [])))) = some x → Sy T n b u al σ tb.length sz mk a1 a2 (tb ++ es) o q1 v1 mk p' sz (em 80 0 :: ca) τ → RwB u p gl Vm p' xm (e0 :: nl) 0 ca → cs.length ≤ ca.length → r.1 ≤ q1 → r.2.1 ≤ v1 → 2 * ca.length ≤ 3 * (q1 - tkN T n q) → Tm (fun k => f_F2 k (e + 2) 3 1 L' τ) (QPo b u tb.length sz mk x (fun r _ τ => FmR T n b u al gl Vm tb o mk p sz q v r τ) σ a1 a2) := by
    intro L' τ a1 a2 q1 v1 bt1 bt2 ca l1 l2 l3 l4 l5 hg s4 rb lca lq lv ln
    have go4 := tk_go s4.1.1
    refine Tm_suc (fun k => fm_1 k _ _ _) ?_
    refine st_expect (kk := 14) s4 (by decide) rfl (gW_a3 hg) (fun τ5 ret5 n1 n2 c5 s5 => ?_)
    obtain ⟨k14, c5⟩ := c5
    have g5 := go4.2.2 (by omega)
    refine Tm_d ?_
    have ev5 := EvX_at ev3 ev s5.1.2.1
    have bd5 : BdX n o (tkN T n q1) v1 mk p' (sz + (em 80 0 :: ca).length) (tb ++ es).length := by
      obtain ⟨d1, d2, d3, d4, d5⟩ := bd3'
      exact ⟨d1, by show 2 * (sz + (ca.length + 1)) + _ + 100 ≤ _; omega, by omega, by omega, by omega⟩
    rcases gb_any c5 with ⟨y5, y6⟩ | ⟨s, y5, y6⟩
    · exact st_exp (C := True) (px f (Nat.le_refl _) (e + 1)) (Or.inl ⟨rfl, rfl⟩) s5 ev5 bd5 rfl (by omega) y5 (Or.inl ⟨rfl, y6⟩) (fun _ _ _ _ _ _ z => by cases z)
    refine st_exp (C := True) (px f (Nat.le_refl _) (e + 1)) (Or.inl ⟨rfl, rfl⟩) s5 ev5 bd5 rfl (by omega) y5 (Or.inr ⟨s, rfl, trivial⟩) (fun τ6 ret6 n3 n4 s' l6 hz6 _ s6 xk6 sg6 ln6 lt6 lv6 tg6 => ?_)
    cases hz6
    have q6n := (tk_go s6.1.1).1
    have s6' : Sy T n b u al σ tb.length sz mk (a1 + n1 + n3) (a2 + n2 + n4) (tb ++ es) o s.1 s.2.1 mk p' sz (em 80 0 :: (ca ++ l6)) τ6 := s6
    have rb1 : RwB u p gl Vm p' xm (e0 :: nl) 1 (ca ++ l6) := RwB_sg rb (fun _ z => z) sg6
    have lcb : (ca ++ l6).length = ca.length + l6.length := List.length_append
    have fin := Sgm_fr (g := 81 + tt) (f := 83 + tt) (t := 1 - tt) (by
      rcases ht with z | z
      · rw [z]; exact Or.inl ⟨rfl, rfl, rfl⟩
      · rw [z]; exact Or.inr ⟨rfl, rfl, rfl⟩) rb1 hs
    generalize hcb : ca ++ l6 = cb at *
    have w1 : ∀ w : Int32, (em 80 0 :: cb ++ [em (81 + tt) w]).length = cb.length + 2 := fun w => by rw [List.length_append]; rfl
    refine Tm_oP (Sy_pp s6') ?_
    refine st_emit (op := 81 + tt) s6' rfl (by show nI 81 + L'.1 1 = _; rw [l1]; exact tt_a ht 81 (by decide)) (by show sz + (cb.length + 1) + 1 ≤ _; omega) (fun τ7 x1 x2 s7 => ?_)
    refine Tm_oP (Sy_pp s7) (Tm_oP (Sy_pp s7) ?_)
    refine st_emit (op := 3) s7 rfl rfl (by rw [w1]; omega) (fun τ8 x3 x4 s8 => ?_)
    refine Tm_op (c_aimL (op := 3) s8 (Nat.le_refl _) (by decide) rfl rfl) (fun r9 s9 => ?_)
    have ej : L'.1 5 - nI (sz + (em 80 0 :: cb ++ [em (81 + tt) 0]).length) = nI e0.1 - nI (cb.length + 1) := by
      rw [l5, w1, show sz + (cb.length + 2) = sz + 1 + (cb.length + 1) by omega]
      exact n_ss (sz + 1) e0.1 (cb.length + 1) (by omega) (by omega)
    have s9' : Sy T n b u al σ tb.length sz mk (a1 + n1 + n3 + x1 + x3) (a2 + n2 + n4 + x2 + x4) (tb ++ es) o s.1 s.2.1 mk p' sz (em 80 0 :: (cb ++ [em (81 + tt) 0, em 3 (nI e0.1 - nI (cb.length + 1))])) r9.2 := by
      have e1 : em 80 0 :: (cb ++ [em (81 + tt) 0, em 3 (nI e0.1 - nI (cb.length + 1))]) = em 80 0 :: cb ++ [em (81 + tt) 0] ++ [em 3 (L'.1 5 - nI (sz + (em 80 0 :: cb ++ [em (81 + tt) 0]).length))] := by
        rw [ej, List.append_assoc]; rfl
      rw [e1]; exact s9
    have lx : (em 80 0 :: (cb ++ [em (81 + tt) 0, em 3 (nI e0.1 - nI (cb.length + 1))])).length = cb.length + 3 := by rw [List.length_cons, List.length_append]; rfl
    refine Tm_oP (Sy_pp s9') (Tm_oP (Sy_pp s9') ?_)
    have e1s : r9.2.1 (fP b 1) = nI (sz + (cb.length + 3)) := by
      have := s9'.1.1.2.1.1
      rw [lx] at this
      exact this
    have cn36 := cdn_b s9'.1.1
    have cle := s9'.1.1.2.1.2.1
    rw [lx] at cle
    have ix : L'.1 4 + 1 = nI (sz + (fstP (e0 :: nl) + 2)) := by rw [l4, n_add1]; exact congrArg nI (by omega)
    have ev' : r9.2.1 (fP b 1) - L'.1 4 = nI (cb.length + 2 - fstP (e0 :: nl)) := by
      rw [e1s, l4, n_sub (by omega) (by omega)]
      exact congrArg nI (by omega)
    rw [ix, ev']
    refine Tm_chk (u_in (n := cdn b r9.2) (by rw [u_n (by omega)]; omega) (by omega)) ?_
    rw [n_cl (p := sz + (fstP (e0 :: nl) + 2)) (by omega)]
    have s10 := Sy_set s9' (Nat.le_refl _) (h := fstP (e0 :: nl) + 2) (by rw [lx]; omega) (nI (cb.length + 2 - fstP (e0 :: nl)))
    have es1 : (em 80 0 :: (cb ++ [em (81 + tt) 0, em 3 (nI e0.1 - nI (cb.length + 1))])).set (fstP (e0 :: nl) + 2) (nI (cb.length + 2 - fstP (e0 :: nl))) = em 80 0 :: (cb.set (fstP (e0 :: nl) + 1) (nI (cb.length + 2 - fstP (e0 :: nl))) ++ [em (81 + tt) 0, em 3 (nI e0.1 - nI (cb.length + 1))]) := by
      show em 80 0 :: (cb ++ [em (81 + tt) 0, em 3 (nI e0.1 - nI (cb.length + 1))]).set (fstP (e0 :: nl) + 1) _ = _
      rw [List.set_append_left _ _ (by omega)]
    rw [es1] at s10
    have ly : (em 80 0 :: (cb.set (fstP (e0 :: nl) + 1) (nI (cb.length + 2 - fstP (e0 :: nl))) ++ [em (81 + tt) 0, em 3 (nI e0.1 - nI (cb.length + 1))])).length = cb.length + 3 := by rw [List.length_cons, List.length_append, List.length_set]; rfl
    have hv3 := s10.1.1.2.2.2.2.2.2.1.2
    refine st_clear (p0 := p) s10 l3 ⟨pp.1, by omega⟩ (by rw [ly]; omega) (fun τ11 ret11 x5 x6 s11 => ?_)
    refine Tm_oP (Sy_pp s11) ?_
    have lz : (em 80 0 :: (cb.set (fstP (e0 :: nl) + 1) (nI (cb.length + 2 - fstP (e0 :: nl))) ++ [em (81 + tt) 0, em 3 (nI e0.1 - nI (cb.length + 1))]) ++ [em 68 (nI p), nI (p' - p)]).length = cb.length + 5 := by rw [List.length_append, ly]; rfl
    refine st_emit (op := 83 + tt) s11 rfl (by show nI 83 + L'.1 1 = _; rw [l1]; exact tt_a ht 83 (by decide)) (by rw [lz]; omega) (fun τ12 x7 x8 s12 => ?_)
    refine Tm_oP (Sy_pp s12) ?_
    rw [l2]
    have s13 := Sy_tb s12 (TbQ_tk s12.1.1.2.2.2.1) (Nat.le_refl _) (Nat.le_refl _)
    have ef : em 80 0 :: (cb.set (fstP (e0 :: nl) + 1) (nI (cb.length + 2 - fstP (e0 :: nl))) ++ [em (81 + tt) 0, em 3 (nI e0.1 - nI (cb.length + 1))]) ++ [em 68 (nI p), nI (p' - p)] ++ [em (83 + tt) 0] = em 80 0 :: (cb.set (fstP (e0 :: nl) + 1) (nI (cb.length + 2 - fstP (e0 :: nl))) ++ [em (81 + tt) 0, em 3 (nI e0.1 - nI (cb.length + 1)), em 68 (nI p), nI (p' - p), em (83 + tt) 0]) := by
      show em 80 0 :: (((cb.set _ _ ++ _) ++ _) ++ _) = _
      rw [List.append_assoc, List.append_assoc]; rfl
    rw [← ef] at fin
    rw [← Option.some.inj y6]
    have lw : ∀ w : Int32, (em 80 0 :: (cb.set (fstP (e0 :: nl) + 1) (nI (cb.length + 2 - fstP (e0 :: nl))) ++ [em (81 + tt) 0, em 3 (nI e0.1 - nI (cb.length + 1))]) ++ [em 68 (nI p), nI (p' - p)] ++ [em (83 + tt) w]).length = cb.length + 6 := fun w => by rw [List.length_append, lz]; rfl
    refine Tm_some (Qfin s13.1 ⟨_, s13.1.1, s13.2, fin, ?_, ?_, ?_⟩)
    · rw [lw]
      show 2 * (cb.length + 6) ≤ 3 * (s.1 - q) + 1
      omega
    · show q < s.1
      omega
    · show v ≤ s.2.1
      omega
  by_cases k15 : tkK T n r.1 = 15
  · rw [if_pos k15] at y2
    have g3 := go3.2.2 (by omega)
    refine Tm_yes ((lx_k (kk := 15) s3.1.1 (by decide)).2 k15) ?_
    refine st_advY s3 (gT_any y2) (fun τ4 r4 er4 c4 s4 => ?_)
    rw [er4]
    refine Tm_d ?_
    have ev4 := EvX_at ev3 ev s4.1.2.1
    have bd4 : BdX n o (tkN T n r.1) r.2.1 mk p' (sz + (em 80 0 :: cs).length) (tb ++ es).length := by
      obtain ⟨d1, d2, d3, d4, d5⟩ := bd3'
      exact ⟨d1, by show 2 * (sz + (cs.length + 1)) + _ + 100 ≤ _; omega, by omega, by omega, by omega⟩
    rcases gb_any c4 with ⟨y5, y6⟩ | ⟨s, y5, y6⟩
    · exact st_exp (C := True) (px f (Nat.le_refl _) (e + 1)) (Or.inl ⟨rfl, rfl⟩) s4 ev4 bd4 rfl (by omega) y5 (Or.inl ⟨rfl, y6⟩) (fun _ _ _ _ _ _ z => by cases z)
    refine st_exp (C := True) (px f (Nat.le_refl _) (e + 1)) (Or.inl ⟨rfl, rfl⟩) s4 ev4 bd4 rfl (by omega) y5 (Or.inr ⟨s, rfl, trivial⟩) (fun τ6 ret6 n3 n4 s' l6 hz6 _ s6 xk6 sg6 ln6 lt6 lv6 tg6 => ?_)
    cases hz6
    have q6n := (tk_go s6.1.1).1
    have s6' : Sy T n b u al σ tb.length sz mk (0 + m1 + m3 + n3) (0 + m2 + m4 + n4) (tb ++ es) o s.1 s.2.1 mk p' sz (em 80 0 :: (cs ++ l6)) τ6 := s6
    have lcb : (cs ++ l6).length = cs.length + l6.length := List.length_append
    refine Tm_oP (Sy_pp s6') (Tm_oP (Sy_pp s6') ?_)
    refine st_emit (op := 4) s6' rfl rfl (by show sz + ((cs ++ l6).length + 1) + 1 ≤ _; omega) (fun τ7 x1 x2 s7 => ?_)
    refine Tm_op (c_aimL (op := 4) s7 (Nat.le_refl _) (by decide) rfl rfl) (fun r9 s9 => ?_)
    have ej : τ3.1 4015 - nI (sz + (em 80 0 :: (cs ++ l6)).length) = nI e0.1 - nI (cs ++ l6).length := by
      show τ3.1 4015 - nI (sz + ((cs ++ l6).length + 1)) = _
      rw [i5, show sz + ((cs ++ l6).length + 1) = sz + 1 + (cs ++ l6).length by omega]
      exact n_ss (sz + 1) e0.1 (cs ++ l6).length (by omega) (by omega)
    have s9' : Sy T n b u al σ tb.length sz mk (0 + m1 + m3 + n3 + x1) (0 + m2 + m4 + n4 + x2) (tb ++ es) o s.1 s.2.1 mk p' sz (em 80 0 :: (cs ++ l6 ++ [em 4 (nI e0.1 - nI (cs ++ l6).length)])) r9.2 := by
      rw [← ej]; exact s9
    have rb := RwB_jb (op := 4) (RwB_sg (RwB_0 row) (fun _ z => z) sg6) (Or.inl rfl) hs
    have lcd : (cs ++ l6 ++ [em 4 (nI e0.1 - nI (cs ++ l6).length)]).length = cs.length + l6.length + 1 := by rw [List.length_append, lcb]; rfl
    exact b1 _ r9.2 _ _ s.1 s.2.1 _ _ _ h1 e11 e19 i4 i5 y6 s9' rb (by rw [lcd]; omega) (by omega) (by omega) (by rw [lcd]; omega)
  · rw [if_neg k15] at y2
    refine Tm_no (fun z => k15 ((lx_k (kk := 15) s3.1.1 (by decide)).1 z)) ?_
    exact b1 _ τ3 _ _ r.1 r.2.1 _ _ cs h1 e11 e19 i4 i5 y2 s3 (RwB_0 row) (Nat.le_refl _) (Nat.le_refl _) (Nat.le_refl _) ln3
end CVX
