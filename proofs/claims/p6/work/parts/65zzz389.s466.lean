/-! The class: quantifiers are read. -/
section CVY
variable {σ σ' σ0 τ τ' : CS} {L : LV} {b : Bool} {T : Nat → Int32} {n q q' u al o v mk p sz szB nc0 sz0 mk0 a1 a2 m kk f e t nc r0 c g : Nat} {y w : Int32} {l l' cs cs' : List Int32} {tb tb' es : List Ent} {ns : List Nm} {α : Type} {S : α → Int32 → CS → Prop} {C : Prop} {E E' : En} {gl : Nat × (Nat → Nat → Prop)} {Vm Vm' : Nat → Prop} {bt : BT}
theorem c_truL : Tm (fun k => y_X11_truth k 0 L σ) (fun r => r.2 = σ ∧ LitG r.1) := by
  refine Tm_suc (fun k => by rw [y_X11_truth]) ?_
  refine Tm_ite (fun _ => ?_) (fun _ => ?_)
  · refine Tm_suc (fun k => by rw [y_X11_truth]) ?_
    refine Tm_suc (fun k => by rw [y_X11_truth]) ?_
    exact Tm_some ⟨rfl, Or.inl (by show 2147483648 ≤ uN (-1879048192 : Int32) ∧ uN (-1879048192 : Int32) < 3489660928; decide)⟩
  · refine Tm_suc (fun k => by rw [y_X11_truth]) ?_
    exact Tm_some ⟨rfl, Or.inl (by show 2147483648 ≤ uN (-1879048191 : Int32) ∧ uN (-1879048191 : Int32) < 3489660928; decide)⟩
theorem st_push {f' : Nat → RS → Option RS} {x : Option α} (h : Sy T n b u al σ0 nc0 sz0 mk0 a1 a2 tb o q v mk p szB cs τ) (hv : LitG (L.1 1)) (hm : szB + cs.length + 2 ≤ 36864) (cont : ∀ (τ' : CS) (ret : Int32) (m1 m2 : Nat), Sy T n b u al σ0 nc0 sz0 mk0 (a1 + m1) (a2 + m2) tb o q v mk p szB (cs ++ [em 32 0, L.1 1]) τ' → Tm (fun k => f' k ((0, ret), τ', (m1, m2))) (QPo b u nc0 sz0 mk0 x S σ0 (a1 + m1) (a2 + m2))) : Tm (fun k => ox (f_X5_push k 0 L τ) (f' k)) (QPo b u nc0 sz0 mk0 x S σ0 a1 a2) := by
  refine st_call (C := True) h.1 (c_pushQ h.1.1 hv hm) (Or.inr ⟨(), rfl, trivial, fun τ' ret n1 n2 hq xk hc => ?_⟩)
  obtain ⟨c1, _, h2, h3, h4⟩ := hq
  subst h4
  exact cont τ' ret n1 n2 (Sy_ca h h2 xk hc h3 h.1.2.2.2.1 h.1.2.2.2.2.2)
theorem Sy_o {o' : Nat} (h : Sy T n b u al σ0 nc0 sz0 mk0 a1 a2 tb o q v mk p szB cs τ) (ho : o' ≤ 20) : Sy T n b u al σ0 nc0 sz0 mk0 a1 a2 tb o' q v mk p szB cs (uI τ 4005 (nI o')) := ⟨Sx_o h.1 ho, h.2⟩
theorem qun_0 (k d : Nat) (L : LV) (σ : CS) : f_F2 (k + 1) d 11 0 L σ = (if ((σ.1 3702)) = 69 then (f_F2 k d 11 2 (lI L 100 1) σ) else (f_F2 k d 11 1 L σ)) := rfl
theorem qun_1 (k d : Nat) (L : LV) (σ : CS) : f_F2 (k + 1) d 11 1 L σ = (f_F2 k d 11 2 (lI L 100 0) σ) := rfl
theorem qun_2 (k d : Nat) (L : LV) (σ : CS) : f_F2 (k + 1) d 11 2 L σ = (ox (f_X5_opens k 0 lZ σ) (fun r1 => oP (sPp r1.2.1) (fun b2 => oP (sPp r1.2.1) (fun b3 => of d (fun e4 => ox (f_F2 k e4 5 0 (lI lZ 1 0) r1.2.1) (fun r4 => ox (f_X5_expect k 0 (lI lZ 1 19) r4.2.1) (fun r5 => of d (fun e6 => ox (f_F2 k e6 1 0 (lI lZ 1 0) r5.2.1) (fun r6 => oP (sPp (uI r6.2.1 4005 ((((r6.2.1.1 4005)) - 1)))) (fun b7 => oP (sPp (uI r6.2.1 4005 ((((r6.2.1.1 4005)) - 1)))) (fun b8 => if ((L.1 100)) = 0 then (f_F2 k d 11 3 (lB (lB (lI (lI (lI (lI (lI L 1 ((L.1 100))) 2 ((r1.2.1.1 (fP b2 11)))) 3 ((r1.2.1.1 (fP b3 19)))) 4 ((r4.2.1.1 4014))) 5 ((r4.2.1.1 4015))) 100 b8) 101 b7) (uI r6.2.1 4005 ((((r6.2.1.1 4005)) - 1)))) else (f_F2 k d 11 4 (lB (lB (lI (lI (lI (lI (lI (lI L 1 ((L.1 100))) 2 ((r1.2.1.1 (fP b2 11)))) 3 ((r1.2.1.1 (fP b3 19)))) 4 ((r4.2.1.1 4014))) 5 ((r4.2.1.1 4015))) 100 4) 101 b8) 102 b7) (uI r6.2.1 4005 ((((r6.2.1.1 4005)) - 1))))))))))))))) := rfl
theorem qun_3 (k d : Nat) (L : LV) (σ : CS) : f_F2 (k + 1) d 11 3 L σ = (f_F2 k d 11 4 (lB (lB (lI L 100 5) 101 ((L.2.2.1 100))) 102 ((L.2.2.1 101))) σ) := rfl
theorem qun_4 (k d : Nat) (L : LV) (σ : CS) : f_F2 (k + 1) d 11 4 L σ = (ox (f_X7_emit__P k 0 (lI (lI (lB lZ 0 ((L.2.2.1 101))) 1 ((L.1 100))) 2 0) σ) (fun r1 => op (y_X7_aim__P k 0 (lI (lI (lB lZ 0 ((L.2.2.1 102))) 1 r1.1.2) 2 ((L.1 5))) r1.2.1) (fun r2 => op (y_X11_truth k 0 (lI lZ 0 ((L.1 1))) r2.2) (fun r3 => ox (f_X5_push k 0 (lI lZ 1 r3.1) r3.2) (fun r4 => oP (sPp r4.2.1) (fun b5 => ox (f_X7_emit__P k 0 (lI (lI (lB lZ 0 b5) 1 3) 2 0) r4.2.1) (fun r6 => oP (sPp r6.2.1) (fun b7 => oP (sPp r6.2.1) (fun b8 => if ¬ (((((L.1 4)) + 1)) < 0 ∨ (sN r6.2.1 (pR0 ((sKd r6.2.1 b7)))) ≤ ((((L.1 4)) + 1)).toNatClampNeg) then (if ((L.1 1)) = 0 then (f_F2 k d 11 6 (lI (lI L 6 r6.1.2) 100 1) (uA r6.2.1 (pR0 ((sKd r6.2.1 b7))) ((((L.1 4)) + 1)).toNatClampNeg ((((r6.2.1.1 (fP b8 1))) - ((L.1 4)))))) else (f_F2 k d 11 5 (lI L 6 r6.1.2) (uA r6.2.1 (pR0 ((sKd r6.2.1 b7))) ((((L.1 4)) + 1)).toNatClampNeg ((((r6.2.1.1 (fP b8 1))) - ((L.1 4))))))) else none))))))))) := rfl
theorem qun_5 (k d : Nat) (L : LV) (σ : CS) : f_F2 (k + 1) d 11 5 L σ = (f_F2 k d 11 6 (lI L 100 0) σ) := rfl
theorem qun_6 (k d : Nat) (L : LV) (σ : CS) : f_F2 (k + 1) d 11 6 L σ = (op (y_X11_truth k 0 (lI lZ 0 ((L.1 100))) σ) (fun r1 => ox (f_X5_push k 0 (lI lZ 1 r1.1) r1.2) (fun r2 => oP (sPp r2.2.1) (fun b3 => oP (sPp r2.2.1) (fun b4 => op (y_X7_aim__P k 0 (lI (lI (lB lZ 0 b3) 1 ((L.1 6))) 2 ((r2.2.1.1 (fP b4 1)))) r2.2.1) (fun r5 => ox (f_X5_clear k 0 (lI lZ 1 ((L.1 3))) r5.2) (fun r6 => oP (sPp r6.2.1) (fun b7 => ox (f_X7_emit__P k 0 (lI (lI (lB lZ 0 b7) 1 40) 2 0) r6.2.1) (fun r8 => oP (sPp r8.2.1) (fun b9 => some ((0, 0), (uI r8.2.1 (fP b9 11) ((L.1 2))), (0, 0)))))))))))) := rfl
theorem c_quant {ex : Nat} {bt2 : RT → RT → BT} {x : Option RT} (px : ∀ f', f' ≤ f → ∀ e', PXp T n b u al f' e') (h : QS T n b u al tb o q v mk p sz σ) (ev : EvX E b u al gl Vm tb σ) (bd : BdX n o q v mk p sz tb.length) (hk : tkK T n q = 69 ∨ tkK T n q = 70) (hG : gO o (gT T n q (fun q1 => gb (G T n f 17 E (o + 1) q1 v 0 0 E.2.2.1.length 0 bt) (fun r => gW T n 15 r.1 (fun q2 => gb (G T n f 0 (seeN E r.2.2.2.2.2) (o + 1) q2 r.2.1 0 0 0 0 r.2.2.2.2.1) (fun s => some (some (s.1, s.2.1, 0, s.2.2.2.2.1.1, bt2 r s, []))))))) = some x) (hd0 : ¬ o = 20 → 6 * (20 - (o + 1)) + 8 ≤ e) : Tm (fun k => f_F2 k (e + 2) 11 0 L σ) (QPo b u tb.length sz mk x (fun r _ τ => XN T n b u al gl Vm tb o mk p sz q v r τ) σ 0 0) := by
  have s0 := Sy_0 h
  have go := tk_go h
  have b22 := bd.2.1
  have n10 := bd.1
  have w6 : q + 6 ≤ tkN T n q := by
    rcases hk with z | z
    · exact tk_wl (m := 6) h z (by decide) rfl
    · exact tk_wl (m := 6) h z (by decide) rfl
  have hop : (¬ (¬ o = 20 ∧ ¬ tkK T n (tkN T n q) = 0) ∧ x = none) ∨ ((¬ o = 20 ∧ ¬ tkK T n (tkN T n q) = 0) ∧ gb (G T n f 17 E (o + 1) (tkN T n q) v 0 0 E.2.2.1.length 0 bt) (fun r => gW T n 15 r.1 (fun q2 => gb (G T n f 0 (seeN E r.2.2.2.2.2) (o + 1) q2 r.2.1 0 0 0 0 r.2.2.2.2.1) (fun s => some (some (s.1, s.2.1, 0, s.2.2.2.2.1.1, bt2 r s, []))))) = some x) := by
    rcases gO_any hG with ⟨w1, w2⟩ | ⟨w1, w2⟩
    · exact Or.inl ⟨fun z => z.1 w1, w2⟩
    · rcases gT_any w2 with ⟨w3, w4⟩ | ⟨w3, w4⟩
      · exact Or.inl ⟨fun z => z.2 w3, w4⟩
      · exact Or.inr ⟨⟨w1, w3⟩, w4⟩
  have b2 : ∀ (L' : LV), Tm (fun k => f_F2 k (e + 2) 11 2 L' σ) (QPo b u tb.length sz mk x (fun r _ τ => XN T n b u al gl Vm tb o mk p sz q v r τ) σ 0 0) := by
    intro L'
    refine Tm_suc (fun k => qun_2 k _ _ _) ?_
    refine st_opens s0 hop (fun τ1 ret1 m1 m2 c1 s1 => ?_)
    have e11 : τ1.1 (fP b 11) = nI tb.length := s1.1.1.2.2.2.1.1
    have e19 : τ1.1 (fP b 19) = nI p := s1.1.1.2.2.2.2.2.2.2
    have o20 : ¬ o = 20 := fun z => by
      have := s1.1.1.2.2.2.2.2.1.2
      omega
    refine Tm_oP (Sy_pp s1) (Tm_oP (Sy_pp s1) ?_)
    refine Tm_d ?_
    have bd1 : BdX n (o + 1) (tkN T n q) v mk p (sz + 0) tb.length := BdX_g bd (by omega) go.2.1 (by omega) (Nat.le_refl _) (by omega)
    have gi : ∃ z, G T n f 17 E (o + 1) (tkN T n q) v 0 0 E.2.2.1.length 0 bt = some z := by
      rcases gb_any c1 with ⟨y1, y2⟩ | ⟨r4, y1, y2⟩
      · exact ⟨_, y1⟩
      · exact ⟨_, y1⟩
    obtain ⟨z, hz⟩ := gi
    refine st_call (C := True) s1.1 (c_iters (fun f' hf' => px f' hf' e) s1.1.1 (EvX_k ev s1.1.2.1) bd1 rfl hz (hd0 o20)) ?_
    rcases gb_any c1 with ⟨y1, y2⟩ | ⟨r, y1, y2⟩
    · rw [hz] at y1
      exact Or.inl ⟨Option.some.inj y1, y2⟩
    rw [hz] at y1
    refine Or.inr ⟨r, Option.some.inj y1, trivial, fun τ3 ret3 m3 m4 hr xk3 hc3 => ?_⟩
    obtain ⟨es, cs, p', xm, e0, nl, i1, i2, row, hs, ⟨i4, i5⟩, ev3, bd3, ln3, lt3, lv3⟩ := hr
    have i4' : τ3.1 4014 = nI (sz + fstP (e0 :: nl)) := i4
    have i5' : τ3.1 4015 = nI (sz + e0.1) := i5
    have s3 : Sy T n b u al σ tb.length sz mk (0 + m1 + m3) (0 + m2 + m4) (tb ++ es) (o + 1) r.1 r.2.1 mk p' sz cs τ3 := Sy_ca s1 i1 xk3 hc3 i2 (by rw [List.length_append]; omega) s1.1.2.2.2.2.2
    have go3 := tk_go s3.1.1
    have bd3' : BdX n (o + 1) r.1 r.2.1 mk p' (sz + cs.length) (tb ++ es).length := bd3
    have fl : fstP (e0 :: nl) + 2 ≤ cs.length := by
      obtain ⟨e1, e2, e3⟩ := fst_m (nl := e0 :: nl) (by show 1 ≤ nl.length + 1; omega)
      have := RwL_le _ row.2.2.2.1 e1 e2
      omega
    have el0 : e0.1 + 2 ≤ cs.length := RwL_le _ row.2.2.2.1 e0 List.mem_cons_self
    have pp := row.1
    refine st_expect (kk := 15) s3 (by decide) rfl (gW_a3 y2) (fun τ5 ret5 n1 n2 c5 s5 => ?_)
    obtain ⟨k15, c5⟩ := c5
    have g5 := go3.2.2 (by omega)
    refine Tm_d ?_
    have ev5 := EvX_at ev3 ev s5.1.2.1
    have bd5 : BdX n (o + 1) (tkN T n r.1) r.2.1 mk p' (sz + cs.length) (tb ++ es).length := BdX_g bd3' (by omega) go3.2.1 (Nat.le_refl _) (Nat.le_refl _) (by omega)
    rcases gb_any c5 with ⟨y5, y6⟩ | ⟨s, y5, y6⟩
    · exact st_exp (C := True) (px f (Nat.le_refl _) (e + 1)) (Or.inl ⟨rfl, rfl⟩) s5 ev5 bd5 rfl (by have := hd0 o20; omega) y5 (Or.inl ⟨rfl, y6⟩) (fun _ _ _ _ _ _ z => by cases z)
    refine st_exp (C := True) (px f (Nat.le_refl _) (e + 1)) (Or.inl ⟨rfl, rfl⟩) s5 ev5 bd5 rfl (by have := hd0 o20; omega) y5 (Or.inr ⟨s, rfl, trivial⟩) (fun τ6 ret6 n3 n4 s' l6 hz6 _ s6 xk6 sg6 ln6 lt6 lv6 tg6 => ?_)
    cases hz6
    have q6n := (tk_go s6.1.1).1
    have rb1 : RwB u p gl Vm p' xm (e0 :: nl) 1 (cs ++ l6) := RwB_sg (RwB_0 row) (fun _ z => z) sg6
    have lcb : (cs ++ l6).length = cs.length + l6.length := List.length_append
    generalize hcb : cs ++ l6 = cb at *
    have o19 := s6.1.1.2.2.2.2.2.1.2
    have e05 : τ6.1 4005 - 1 = nI o := by
      rw [s6.1.1.2.2.2.2.2.1.1]
      exact n_sub1 (by omega)
    have s7 := Sy_o (o' := o) s6 (by omega)
    show Tm (fun k => oP (sPp (uI τ6 4005 (τ6.1 4005 - 1))) (fun b7 => _)) _
    rw [e05]
    -- the last block
    have b6 : ∀ (L8 : LV) (τ8 : CS) (a5 a6 : Nat) (tv : Int32) (cc : List Int32), L8.1 2 = nI tb.length → L8.1 3 = nI p → L8.1 6 = nI (sz + (cc.length + 2)) → LitG tv → RwB u p gl Vm p' xm (e0 :: nl) 0 cc → cc.length = cb.length + 1 → Sy T n b u al σ tb.length sz mk a5 a6 (tb ++ es) o s.1 s.2.1 mk p' sz (cc.set (fstP (e0 :: nl) + 1) (nI (cc.length + 3 - fstP (e0 :: nl))) ++ [em 32 0, tv, em 3 0]) τ8 → Tm (fun k => f_F2 k (e + 2) 11 6 L8 τ8) (QPo b u tb.length sz mk x (fun r _ τ => XN T n b u al gl Vm tb o mk p sz q v r τ) σ a5 a6) := by
      intro L8 τ8 a5 a6 tv cc l2 l3 l6' ltv rb lcc s8
      generalize hst : cc.set (fstP (e0 :: nl) + 1) (nI (cc.length + 3 - fstP (e0 :: nl))) = ct at *
      have lct : ct.length = cc.length := by rw [← hst, List.length_set]
      have ls8 : (ct ++ [em 32 0, tv, em 3 0]).length = cc.length + 3 := by rw [List.length_append, lct]; rfl
      refine Tm_suc (fun k => qun_6 k _ _ _) ?_
      refine Tm_op c_truL (fun r9 z9 => ?_)
      obtain ⟨e9, lfv⟩ := z9
      rw [e9]
      refine st_push (L := lI lZ 1 r9.1) s8 lfv (by rw [ls8]; omega) (fun τ10 ret10 x1 x2 s10 => ?_)
      have s10' : Sy T n b u al σ tb.length sz mk (a5 + x1) (a6 + x2) (tb ++ es) o s.1 s.2.1 mk p' sz (ct ++ [em 32 0, tv, em 3 0, em 32 0, r9.1]) τ10 := by
        have e1 : ct ++ [em 32 0, tv, em 3 0, em 32 0, r9.1] = ct ++ [em 32 0, tv, em 3 0] ++ [em 32 0, r9.1] := by rw [List.append_assoc]; rfl
        rw [e1]; exact s10
      have ls10 : (ct ++ [em 32 0, tv, em 3 0, em 32 0, r9.1]).length = cc.length + 5 := by rw [List.length_append, lct]; rfl
      refine Tm_oP (Sy_pp s10') (Tm_oP (Sy_pp s10') ?_)
      have e1s : τ10.1 (fP b 1) = nI (sz + (cc.length + 5)) := by
        have := s10'.1.1.2.1.1
        rw [ls10] at this
        exact this
      have hget : (ct ++ [em 32 0, tv, em 3 0, em 32 0, r9.1]).getD (cc.length + 2) 0 = em 3 0 := by
        have z := gd_r (a := ct) (b := [em 32 0, tv, em 3 0, em 32 0, r9.1]) 2
        rw [lct] at z
        exact z
      refine Tm_op (c_aim (h := cc.length + 2) (op := 3) s10' (Nat.le_refl _) (by rw [ls10]; omega) (by decide) hget rfl l6') (fun r11 z11 => ?_)
      have ej : τ10.1 (fP b 1) - L8.1 6 = nI 3 := by
        rw [e1s, l6', n_sub (by omega) (by omega)]
        exact congrArg nI (by omega)
      have es2 : (ct ++ [em 32 0, tv, em 3 0, em 32 0, r9.1]).set (cc.length + 2) (em 3 (nI 3)) = ct ++ [em 32 0, tv, em 3 (nI 3), em 32 0, r9.1] := by
        rw [List.set_append_right _ _ (by omega), lct, Nat.add_sub_cancel_left]; rfl
      have s11 : Sy T n b u al σ tb.length sz mk (a5 + x1) (a6 + x2) (tb ++ es) o s.1 s.2.1 mk p' sz (ct ++ [em 32 0, tv, em 3 (nI 3), em 32 0, r9.1]) r11.2 := by
        rw [← es2, ← ej]; exact z11
      have ls11 : (ct ++ [em 32 0, tv, em 3 (nI 3), em 32 0, r9.1]).length = cc.length + 5 := by rw [List.length_append, lct]; rfl
      refine st_clear (p0 := p) s11 l3 ⟨pp.1, by omega⟩ (by rw [ls11]; omega) (fun τ12 ret12 x5 x6 s12 => ?_)
      refine Tm_oP (Sy_pp s12) ?_
      have ls12 : (ct ++ [em 32 0, tv, em 3 (nI 3), em 32 0, r9.1] ++ [em 68 (nI p), nI (p' - p)]).length = cc.length + 7 := by rw [List.length_append, ls11]; rfl
      refine st_emit (op := 40) s12 rfl rfl (by rw [ls12]; omega) (fun τ13 x7 x8 s13 => ?_)
      refine Tm_oP (Sy_pp s13) ?_
      rw [l2]
      have s14 := Sy_tb s13 (TbQ_tk s13.1.1.2.2.2.1) (Nat.le_refl _) (Nat.le_refl _)
      have fin := Sgm_qu rb ltv lfv
      rw [hst] at fin
      have ef : ct ++ [em 32 0, tv, em 3 (nI 3), em 32 0, r9.1, em 68 (nI p), nI (p' - p), em 40 0] = ct ++ [em 32 0, tv, em 3 (nI 3), em 32 0, r9.1] ++ [em 68 (nI p), nI (p' - p)] ++ [em 40 0] := by rw [List.append_assoc, List.append_assoc]; rfl
      rw [ef] at fin
      rw [← Option.some.inj y6]
      have lw : ∀ w : Int32, (ct ++ [em 32 0, tv, em 3 (nI 3), em 32 0, r9.1] ++ [em 68 (nI p), nI (p' - p)] ++ [em 40 w]).length = cc.length + 8 := fun w => by rw [List.length_append, ls12]; rfl
      refine Tm_some (Qfin s14.1 ⟨_, s14.1.1, s14.2, fin, ?_, ?_, ?_, rfl⟩)
      · rw [lw]
        show 2 * (cc.length + 8) ≤ 3 * (s.1 - q) + 1
        omega
      · show q < s.1
        omega
      · show v ≤ s.2.1
        omega
    have b4 : ∀ (L8 : LV) (op1 : Nat), (op1 = 4 ∨ op1 = 5) → L8.1 100 = nI op1 → L8.2.2.1 101 = b → L8.2.2.1 102 = b → L8.1 2 = nI tb.length → L8.1 3 = nI p → L8.1 4 = nI (sz + fstP (e0 :: nl)) → L8.1 5 = nI (sz + e0.1) → Tm (fun k => f_F2 k (e + 2) 11 4 L8 (uI τ6 4005 (nI o))) (QPo b u tb.length sz mk x (fun r _ τ => XN T n b u al gl Vm tb o mk p sz q v r τ) σ (0 + m1 + m3 + n1 + n3) (0 + m2 + m4 + n2 + n4)) := by
      intro L8 op1 ho l100 lb1 lb2 l2 l3 l4 l5
      refine Tm_suc (fun k => qun_4 k _ _ _) ?_
      refine st_emit (op := op1) s7 lb1 l100 (by omega) (fun τ8 x1 x2 s8 => ?_)
      refine Tm_op (c_aimL (op := op1) s8 (Nat.le_refl _) (by omega) lb2 rfl) (fun r9 s9 => ?_)
      have ej : L8.1 5 - nI (sz + cb.length) = nI e0.1 - nI cb.length := by
        rw [l5]
        exact n_ss sz e0.1 cb.length (by omega) (by omega)
      have s9' : Sy T n b u al σ tb.length sz mk (0 + m1 + m3 + n1 + n3 + x1) (0 + m2 + m4 + n2 + n4 + x2) (tb ++ es) o s.1 s.2.1 mk p' sz (cb ++ [em op1 (nI e0.1 - nI cb.length)]) r9.2 := by
        rw [← ej]; exact s9
      have rb := RwB_jb (op := op1) rb1 ho hs
      have lcc : (cb ++ [em op1 (nI e0.1 - nI cb.length)]).length = cb.length + 1 := by rw [List.length_append]; rfl
      generalize hcc : cb ++ [em op1 (nI e0.1 - nI cb.length)] = cc at *
      refine Tm_op c_truL (fun r10 z10 => ?_)
      obtain ⟨e10, ltv⟩ := z10
      rw [e10]
      refine st_push (L := lI lZ 1 r10.1) s9' ltv (by omega) (fun τ11 ret11 x3 x4 s11 => ?_)
      have ls11 : ∀ w : Int32, (cc ++ [em 32 0, w]).length = cc.length + 2 := fun w => by rw [List.length_append]; rfl
      refine Tm_oP (Sy_pp s11) ?_
      refine st_emit (op := 3) s11 rfl rfl (by rw [ls11]; omega) (fun τ12 x5 x6 s12 => ?_)
      have s12' : Sy T n b u al σ tb.length sz mk (0 + m1 + m3 + n1 + n3 + x1 + x3 + x5) (0 + m2 + m4 + n2 + n4 + x2 + x4 + x6) (tb ++ es) o s.1 s.2.1 mk p' sz (cc ++ [em 32 0, r10.1, em 3 0]) τ12 := by
        have e1 : cc ++ [em 32 0, r10.1, em 3 0] = cc ++ [em 32 0, r10.1] ++ [em 3 0] := by rw [List.append_assoc]; rfl
        rw [e1]; exact s12
      have ls12 : (cc ++ [em 32 0, r10.1, em 3 0]).length = cc.length + 3 := by rw [List.length_append]; rfl
      refine Tm_oP (Sy_pp s12') (Tm_oP (Sy_pp s12') ?_)
      have e1s : τ12.1 (fP b 1) = nI (sz + (cc.length + 3)) := by
        have := s12'.1.1.2.1.1
        rw [ls12] at this
        exact this
      have cn36 := cdn_b s12'.1.1
      have cle := s12'.1.1.2.1.2.1
      rw [ls12] at cle
      have ix : L8.1 4 + 1 = nI (sz + (fstP (e0 :: nl) + 1)) := by rw [l4, n_add1]; exact congrArg nI (by omega)
      have ev' : τ12.1 (fP b 1) - L8.1 4 = nI (cc.length + 3 - fstP (e0 :: nl)) := by
        rw [e1s, l4, n_sub (by omega) (by omega)]
        exact congrArg nI (by omega)
      show Tm (fun k => if ¬ (L8.1 4 + 1 < 0 ∨ cdn b τ12 ≤ (L8.1 4 + 1).toNatClampNeg) then (if L8.1 1 = 0 then f_F2 k (e + 2) 11 6 (lI (lI L8 6 (nI (sz + (cc ++ [em 32 0, r10.1]).length))) 100 1) (uA τ12 (pR0 (sKd τ12 b)) (L8.1 4 + 1).toNatClampNeg (τ12.1 (fP b 1) - L8.1 4)) else f_F2 k (e + 2) 11 5 (lI L8 6 (nI (sz + (cc ++ [em 32 0, r10.1]).length))) (uA τ12 (pR0 (sKd τ12 b)) (L8.1 4 + 1).toNatClampNeg (τ12.1 (fP b 1) - L8.1 4))) else none) _
      rw [ix, ev', ls11]
      refine Tm_chk (u_in (n := cdn b τ12) (by rw [u_n (by omega)]; omega) (by omega)) ?_
      rw [n_cl (p := sz + (fstP (e0 :: nl) + 1)) (by omega)]
      have s13 := Sy_set s12' (Nat.le_refl _) (h := fstP (e0 :: nl) + 1) (by rw [ls12]; omega) (nI (cc.length + 3 - fstP (e0 :: nl)))
      rw [List.set_append_left _ _ (by omega)] at s13
      refine Tm_ite (fun _ => ?_) (fun _ => ?_)
      · exact b6 _ _ _ _ r10.1 cc l2 l3 rfl ltv rb lcc s13
      · refine Tm_suc (fun k => qun_5 k _ _ _) ?_
        exact b6 _ _ _ _ r10.1 cc l2 l3 rfl ltv rb lcc s13
    refine Tm_oP (Sy_pp s7) (Tm_oP (Sy_pp s7) ?_)
    refine Tm_ite (fun _ => ?_) (fun _ => ?_)
    · refine Tm_suc (fun k => qun_3 k _ _ _) ?_
      exact b4 _ 5 (Or.inr rfl) rfl rfl rfl e11 e19 i4' i5'
    · exact b4 _ 4 (Or.inl rfl) rfl rfl rfl e11 e19 i4' i5'
  refine Tm_suc (fun k => qun_0 k _ _ _) ?_
  refine Tm_ite (fun _ => b2 _) (fun _ => ?_)
  refine Tm_suc (fun k => qun_1 k _ _ _) ?_
  exact b2 _
end CVY
