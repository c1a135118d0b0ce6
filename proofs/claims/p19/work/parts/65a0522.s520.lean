section JnS520
/-! The class: fors, up to do. -/
section CYJ
variable {σ σ' σ0 τ τ' τ0 : CS} {L : LV} {b : Bool} {T : Nat → Int32} {n q q' u al o v mk mk' p sz sz' szB szE nc nc0 sz0 mk0 a1 a2 m kk f e s0 ow a t0 g D w st w' st' M nm deep vv np lp N Bd nb k d P h st0 b0 it q0 v0 r0 c : Nat} {y qh qh' y0 y1 wd x0 x1 x3 : Int32} {l l' cs cs' cs2 ll lt lt0 co bo : List Int32} {tb tb' es : List Ent} {ns : List Nm} {E : En} {gl : Nat × (Nat → Nat → Prop)} {Vm Vm' : Nat → Prop} {Pc : Nat → Nat → Prop} {MD : Nat → Nat → Nat} {md : Nat → Nat} {bt : BT} {ks qs qs' qa qb js qsI : List Nat} {lo lo' : Option Nat} {s : SB} {α : Type} {S : α → Int32 → CS → Prop} {x : Fl α} {C : Prop} {hd : Bool}
/-- behind the iters: a condition, or do -/
def foC (d : Nat) (LF : LV) (τ : CS) (k : Nat) : Option RS := if τ.1 3702 = 19 then (ox (f_X2_advance k 0 lZ τ) (fun r13 => ox (f_X5_exp k 0 (lI lZ 1 0) r13.2.1) (fun r14 => oP (sPp r14.2.1) (fun b15 => oP (sPp r14.2.1) (fun b16 => ox (f_X7_emit__P k 0 (lI (lI (lB lZ 0 b16) 1 4) 2 0) r14.2.1) (fun r17 => op (y_X7_aim__P k 0 (lI (lI (lB lZ 0 b15) 1 r17.1.2) 2 (τ.1 4015)) r17.2.1) (fun r18 => f_F3 k d 1 1 LF r18.2))))))) else (f_F3 k d 1 1 LF τ)
theorem c_for0 {z17 : Fl RT} {zF : Fl (Nat × Nat × Nat)} {bt' : BT} (hG : G T n f 17 E (o + 1) (tkN T n q) v 0 0 E.2.2.1.length 1 bt' = some z17) (w1 : ¬ tkK T n (tkN T n q) = 0) (ho : ¬ o = 20) (h : QS T n b u al tb o q v mk 0 (N + 1) σ) (zf : ZF b u w st lo qh σ) (hbg : cdr b σ N = em 0 (nI q)) (cx : CxS n E b u al gl Vm Pc MD tb lp lo σ) (bd : BdB n o q v mk N w tb.length) (h25 : ¬ tkK T n q = 25) (h0 : ∀ ye, z17 = Sum.inl ye → zF = Sum.inl ye) (hs : ∀ r, z17 = Sum.inr r → ∀ (τ : CS) (LF : LV) (n1 n2 : Nat), FoS T n b u al gl Pc Vm σ n1 n2 tb o mk N w st lo qh q v (seeN E r.2.2.2.2.2) r.1 r.2.1 LF τ → τ.1 4015 = LF.1 7 → Tm (fun k => foC d LF τ k) (ZPo b u tb.length N mk zF (fun r _ τ => S1W T n b u al gl Pc Vm tb o mk N q v w st lo qh (bdO o v) r τ) σ n1 n2)) : Tm (fun k => f_F3 k d 1 0 L σ) (ZPo b u tb.length N mk zF (fun r _ τ => S1W T n b u al gl Pc Vm tb o mk N q v w st lo qh (bdO o v) r τ) σ 0 0) := by
  have s0 := Zy_N h zf hbg
  have u41 := cx.2.2.1
  have n10 := cx.1.2.2.2.2
  obtain ⟨bd1, bd2, bd3, bd4⟩ := bd
  have i42 : ¬ (nI u < 0 ∨ 42 ≤ (nI u).toNatClampNeg) := u_in (by rw [u_n (by omega)]; omega) (by decide)
  have e03 : σ.1 4003 = nI u := h.2.2.2.2.1.2.1
  have go := tk_go h
  have g1 := go.2.2 h25
  have v60 : v ≤ 60 := h.2.2.2.2.2.2.1.2
  refine Tm_suc (fun k => fr1_0 k _ _ _) ?_
  refine Tm_oP (Zy_pp s0) (Tm_oP (Zy_pp s0) ?_)
  refine Tm_chk (by rw [e03]; exact i42) ?_
  refine zt_opens (C := True) s0 (Or.inr ⟨⟨ho, w1⟩, trivial⟩) (fun τ1 ret1 n1 n2 _ s1 xk1 => ?_)
  refine Tm_oP (Zy_pp s1) ?_
  refine zt_emit (op := 42) s1 rfl rfl (by show N + 1 + 1 ≤ 36864; omega) (fun τ2 n3 n4 s2 xk2 => ?_)
  have s2' : Zy T n b u al σ tb.length N mk (0 + n1 + n3) (0 + n2 + n4) tb (o + 1) (tkN T n q) v mk w st lo qh N [em 0 (nI q), em 42 0] τ2 := s2
  have go2 := tk_go s2'.1.1
  have bdx : BdX n (o + 1) (tkN T n q) v mk 0 (N + 2) tb.length := ⟨n10, by omega, by omega, bd3, by omega⟩
  refine zt_callZ (C := True) s2' (c_itersF (e := 399) (N := N) (pre := [em 0 (nI q), em 42 0]) (sz := N + 2) s2'.1.1 s2'.2.2 (EvX_z cx.1.1 s2'.1.2.1) bdx bd4 (FRw_0 (Pc := Pc) (by omega)) rfl rfl rfl hG (by omega)) ?_
  cases z17 with
  | inl yf => exact Or.inl ⟨_, rfl, h0 _ rfl⟩
  | inr r =>
    refine Or.inr ⟨r, rfl, trivial, fun τ3 ret3 n5 n6 hr zk3 hc3 => ?_⟩
    obtain ⟨es, ci, w2, fi, la, xm, lm, pl, ⟨i1, i2, i3⟩, fr, ⟨p1, p2, p3⟩, ⟨e14, e15⟩, evF, ⟨bdF, w23⟩, mks, ple, ek, ln, lt⟩ := hr
    have la' : (tb ++ es).length = tb.length + es.length := List.length_append
    have s3 : Zy T n b u al σ tb.length N mk (0 + n1 + n3 + n5) (0 + n2 + n4 + n6) (tb ++ es) (o + 1) r.1 r.2.1 (mk + 3 * pl.length) w2 st lo qh N ([em 0 (nI q), em 42 0] ++ ci) τ3 := Zy_ca (ll := ci) s2' i1 zk3 hc3 i2 (by rw [la']; omega) (by omega) i3
    have go3 := tk_go s3.1.1
    have r60 : r.2.1 ≤ 60 := s3.1.1.2.2.2.2.2.2.1.2
    have lci : ([em 0 (nI q), em 42 0] ++ ci).length = ci.length + 2 := by rw [List.length_append]; show 2 + ci.length = _; omega
    have e033 : τ3.1 4003 = nI u := s3.1.1.2.2.2.2.1.2.1
    have wb := fr.1.1
    have kd : τ3.2.2.1 (pR18 b) (τ3.1 4003).toNatClampNeg - σ.2.2.1 (pR18 b) (σ.1 4003).toNatClampNeg = nI (w2 - w) := by
      rw [e033, e03, n_cl (p := u) (by omega), i3.1, zf.1, n_sub (by omega) (by omega)]
    have cn : (nI (N + 1)).toNatClampNeg = N + 1 := n_cl (by omega)
    have key : uA τ3 (pR0 (sKd τ3 b)) (nI (N + 1)).toNatClampNeg (42 ||| ((τ3.2.2.1 (pR18 b) (τ3.1 4003).toNatClampNeg - σ.2.2.1 (pR18 b) (σ.1 4003).toNatClampNeg) <<< ((8 : Int32) &&& 31))) = uA τ3 (pR0 (sKd τ3 b)) (N + 1) (em 42 (nI (w2 - w))) := by
      rw [kd, cn]; rfl
    have s4 := Zy_set (hp := 1) s3 (Nat.le_refl _) (by rw [lci]; omega) (em 42 (nI (w2 - w)))
    refine Tm_oP (Zy_pp s3) ?_
    refine Tm_chk (by rw [e033]; exact i42) ?_
    refine Tm_oP (Zy_pp s3) ?_
    refine Tm_chk (Zy_in (hp := 1) s3 (by rw [lci]; omega)) ?_
    have hs' := hs r rfl
    unfold foC at hs'
    refine hs' _ _ _ _ ⟨es, ([em 0 (nI q), em 42 0] ++ ci).set 1 (em 42 (nI (w2 - w))), [em 0 (nI q), em 42 0] ++ ci, w2, fi, la, xm, lm, pl, ?_, fr, ⟨List.length_set, ?_, fun j hj hn => ?_⟩, ⟨p3, p1, p2, w23⟩, ple, fun j hj => ?_, ⟨?_, by omega⟩, evF.1, fun j hj => ?_, ⟨bdF.2.2.2.1, bdF.2.2.1⟩, ⟨h.2.2.2.1.1, h.2.2.1.1, ?_⟩, kd, e14, e15⟩ rfl
    · show Zy T n b u al σ tb.length N mk _ _ (tb ++ es) (o + 1) r.1 r.2.1 (mk + 3 * pl.length) w2 st lo qh N _ (uA τ3 (pR0 (sKd τ3 b)) (nI (N + 1)).toNatClampNeg (42 ||| ((τ3.2.2.1 (pR18 b) (τ3.1 4003).toNatClampNeg - σ.2.2.1 (pR18 b) (σ.1 4003).toNatClampNeg) <<< ((8 : Int32) &&& 31))))
      rw [key]; exact s4
    · rw [gd_set, if_pos ⟨rfl, by rw [lci]; omega⟩]
    · rw [gd_set, if_neg (fun z => hn z.1)]
    · show (uA τ3 (pR0 (sKd τ3 b)) _ _).2.2.1 41 (mk + j) = _
      rw [uA_k (by rcases pR0_c (sKd τ3 b) with y | y <;> omega)]; exact mks j hj
    · rw [List.length_set, lci]; omega
    · rw [la'] at hj
      by_cases z : j < tb.length
      · rw [gE_l z]; exact cx.1.2.2.2.1 j z
      · have y := gE_r (a := tb) (c := es) (j - tb.length)
        rw [show tb.length + (j - tb.length) = j by omega] at y
        rw [y, ek _ (by omega)]; decide
    · show σ.2.2.1 (pR18 b) (σ.1 4003).toNatClampNeg = _
      rw [e03, n_cl (p := u) (by omega)]; exact zf.1
end CYJ
end JnS520
section JnS521
/-! The class: fors with a condition. -/
section CYK
variable {σ σ' σ0 τ τ' τ0 : CS} {L : LV} {b : Bool} {T : Nat → Int32} {n q q' u al o v mk mk' p sz sz' szB szE nc nc0 sz0 mk0 a1 a2 m kk f e s0 ow a t0 g D w st w' st' M nm deep vv np lp N Bd nb k d P h st0 b0 it q0 v0 r0 c : Nat} {y qh qh' y0 y1 wd x0 x1 x3 : Int32} {l l' cs cs' cs2 ll lt lt0 co bo : List Int32} {tb tb' es : List Ent} {ns : List Nm} {E : En} {gl : Nat × (Nat → Nat → Prop)} {Vm Vm' : Nat → Prop} {Pc : Nat → Nat → Prop} {MD : Nat → Nat → Nat} {md : Nat → Nat} {bt : BT} {ks qs qs' qa qb js qsI : List Nat} {lo lo' : Option Nat} {s : SB} {α : Type} {S : α → Int32 → CS → Prop} {x : Fl α} {C : Prop} {hd : Bool}
/-- a condition behind the iters -/
theorem c_forC {x2 : Fl RT} {zF : Fl (Nat × Nat × Nat)} {bt' : BT} {rq rv : Nat} (cx : CxS n E b u al gl Vm Pc MD tb lp lo σ) (bd : BdB n o q v mk N w tb.length) (ho : o < 20) (fs : FoS T n b u al gl Pc Vm σ a1 a2 tb o mk N w st lo qh q v (seeN E ns) rq rv L τ) (e15 : τ.1 4015 = L.1 7) (k15 : tkK T n rq = 15) (hN : tkK T n (tkN T n rq) = 0 → zF = Sum.inl (1, tkN T n rq)) (hG : ¬ tkK T n (tkN T n rq) = 0 → G T n f 0 (seeN E ns) (o + 1) (tkN T n rq) rv 0 0 0 0 bt' = some x2) (h0 : ∀ ye, x2 = Sum.inl ye → zF = Sum.inl ye) (hs : ¬ tkK T n (tkN T n rq) = 0 → ∀ t, x2 = Sum.inr t → ∀ (τ' : CS) (n1 n2 : Nat), FoS T n b u al gl Pc Vm σ n1 n2 tb o mk N w st lo qh q v (seeN E ns) t.1 t.2.1 L τ' → Tm (fun k => f_F3 k d 1 1 L τ') (ZPo b u tb.length N mk zF (fun r _ τ => S1W T n b u al gl Pc Vm tb o mk N q v w st lo qh (bdO o v) r τ) σ n1 n2)) : Tm (fun k => foC d L τ k) (ZPo b u tb.length N mk zF (fun r _ τ => S1W T n b u al gl Pc Vm tb o mk N q v w st lo qh (bdO o v) r τ) σ a1 a2) := by
  obtain ⟨es, cs, csR, w2', fi, la, xm, lm, pl, s1, fr, ⟨f1, f2, f3⟩, ⟨f4, f5, f6, f6'⟩, f7, f8, ⟨f9, f9'⟩, nm, n3, ⟨nt, mb⟩, ⟨l1, l2, l3⟩, l5, l6, l7⟩ := fs
  obtain ⟨bd1, bd2, bd3, bd4⟩ := bd
  have n10 := cx.1.2.2.2.2
  have go1 := tk_go s1.1.1
  have g1 := go1.2.2 (by omega)
  have f33 := fr.1.2.2 f5
  unfold foC
  refine Tm_yes ((lx_k (kk := 15) s1.1.1 (by decide)).2 k15) ?_
  by_cases w1 : tkK T n (tkN T n rq) = 0
  · exact zt_adv (C := False) s1 (Or.inl ⟨w1, hN w1⟩) (fun _ _ _ _ c _ _ => c.elim)
  refine zt_adv (C := True) s1 (Or.inr ⟨w1, trivial⟩) (fun τ2 ret2 n1 n2 _ s2 xk2 => ?_)
  have go2 := tk_go s2.1.1
  have bdx : BdX n (o + 1) (tkN T n rq) rv (mk + 3 * pl.length) 0 (N + cs.length) (tb ++ es).length := ⟨n10, by omega, by omega, nt, by omega⟩
  have ev2 : EvX (seeN E ns) b u al gl (VmX Vm xm) (tb ++ es) τ2 := EvX_f (EvX_z cx.1.1 s2.1.2.1) nm rfl
  cases x2 with
  | inl yf =>
    rw [h0 _ rfl]
    exact zt_exp (C := True) s2 ev2 bdx rfl (hG w1) (Or.inl ⟨_, rfl, rfl⟩) (fun _ _ _ _ _ _ z => by cases z)
  | inr t =>
    refine zt_exp (C := True) s2 ev2 bdx rfl (hG w1) (Or.inr ⟨t, rfl, trivial⟩) (fun τ3 ret3 n3' n4 r' co hzz _ s3 xk3 sg lnc lt lvc tg => ?_)
    cases hzz
    have go3 := tk_go s3.1.1
    have lc : (cs ++ co).length = cs.length + co.length := List.length_append
    refine Tm_oP (Zy_pp s3) (Tm_oP (Zy_pp s3) ?_)
    refine zt_emit (op := 4) s3 rfl rfl (by rw [lc]; omega) (fun τ4 n5 n6 s4 xk4 => ?_)
    have s4' : Zy T n b u al σ tb.length N mk (a1 + n1 + n3' + n5) (a2 + n2 + n4 + n6) (tb ++ es) (o + 1) t.1 t.2.1 (mk + 3 * pl.length) w2' st lo qh N (cs ++ co ++ [em 4 0]) τ4 := s4
    have l4 : (cs ++ co ++ [em 4 0]).length = cs.length + co.length + 1 := by rw [List.length_append, lc]; rfl
    have gc : (cs ++ co ++ [em 4 0]).getD (cs.length + co.length) 0 = em 4 0 := by
      have z := gd_r (a := cs ++ co) (b := [em 4 0]) 0
      rw [lc] at z
      exact z
    have e4 : nI (N + (cs ++ co).length) = nI (N + (cs.length + co.length)) := by rw [lc]
    refine Tm_op (c_aim (op := 4) (x := 0) (h := cs.length + co.length) (Sy_z s4') (Nat.le_refl _) (by rw [l4]; omega) (by decide) gc rfl e4) (fun r5 z5 => ?_)
    have s5 := Zy_s s4' z5 (Nat.le_refl _)
    have ew : (lI (lI (lB lZ 0 b) 1 (nI (N + (cs ++ co).length))) 2 (τ.1 4015)).1 2 - (lI (lI (lB lZ 0 b) 1 (nI (N + (cs ++ co).length))) 2 (τ.1 4015)).1 1 = nI la - nI (csR.length + co.length) := by
      show τ.1 4015 - nI (N + (cs ++ co).length) = _
      rw [e15, l7, e4, f1]
      exact n_ss N la (csR.length + co.length) (by omega) (by omega)
    have s5' : Zy T n b u al σ tb.length N mk (a1 + n1 + n3' + n5 + 0) (a2 + n2 + n4 + n6 + 0) (tb ++ es) (o + 1) t.1 t.2.1 (mk + 3 * pl.length) w2' st lo qh N ((cs ++ co ++ [em 4 0]).set (cs.length + co.length) (em 4 (nI la - nI (csR.length + co.length)))) r5.2 := by
      rw [← ew]; exact s5
    have fr2 := FRw_cd (Vm' := VmX Vm xm) fr f5 (fun i z => z) (fun i z => Or.inl z) sg
    have lR : (csR ++ (co ++ [em 4 (nI la - nI (csR.length + co.length))])).length = csR.length + co.length + 1 := by rw [List.length_append, List.length_append]; show csR.length + (co.length + 1) = _; omega
    have lS : ((cs ++ co ++ [em 4 0]).set (cs.length + co.length) (em 4 (nI la - nI (csR.length + co.length)))).length = cs.length + co.length + 1 := by rw [List.length_set, l4]
    have mk5 : ∀ i, i < 3 * pl.length → r5.2.2.2.1 41 (mk + i) = (mkF3 pl).getD i 0 := fun i hi => by
      have z := (z5.1.2.1).2.2.2.2.2.2.1 (mk + i) (by omega)
      rw [z, xk4.2.2.2.2.2.2.1 (mk + i) (by omega), xk3.2.2.2.2.2.2.1 (mk + i) (by omega), xk2.2.2.2.2.2.2.1 (mk + i) (by omega)]
      exact f8 i hi
    refine hs w1 t rfl r5.2 _ _ ⟨es, _, _, w2', fi, la, xm, lm, pl, s5', fr2, ⟨by rw [lS, lR, f1], ?_, fun i hi hn => ?_⟩, ⟨f4, f5, by omega, by omega⟩, f7, mk5, ⟨by rw [lS]; omega, by omega⟩, nm, n3, ⟨by omega, by omega⟩, ⟨l1, l2, l3⟩, l5, l6, l7⟩
    · rw [gd_set, if_neg (by omega), List.append_assoc, gd_l (by omega)]; exact f2
    · rw [lR] at hi
      rw [gd_set]
      by_cases c1 : i = cs.length + co.length
      · rw [if_pos ⟨c1, by rw [l4]; omega⟩]
        have z := gd_r (a := csR) (b := co ++ [em 4 (nI la - nI (csR.length + co.length))]) co.length
        have z2 := gd_r (a := co) (b := [em 4 (nI la - nI (csR.length + co.length))]) 0
        rw [c1, f1, z]
        exact z2.symm
      · rw [if_neg (fun z => c1 z.1), gd_l (by rw [lc]; omega)]
        by_cases c2 : i < cs.length
        · rw [gd_l c2, gd_l (by omega)]; exact f3 i (by omega) hn
        · have z := gd_r (a := cs) (b := co) (i - cs.length)
          have z2 := gd_r (a := csR) (b := co ++ [em 4 (nI la - nI (csR.length + co.length))]) (i - csR.length)
          rw [show cs.length + (i - cs.length) = i by omega] at z
          have z3 : (co ++ [em 4 (nI la - nI (csR.length + co.length))]).getD (i - csR.length) 0 = co.getD (i - csR.length) 0 := gd_l (by omega)
          rw [show csR.length + (i - csR.length) = i by omega] at z2
          rw [z, z2, z3, f1]
theorem gb_ex {x0 : RG} {k : RT → SR} {k2 : ST → SR} {y : Fl ST} (h : hb (lb x0 k) k2 = some y) : ∃ x, x0 = some x := by
  rcases hb_any h with ⟨yf, y1, _⟩ | ⟨_, y1, _⟩
  · rcases lb_any y1 with ⟨yf, y3, _⟩ | ⟨_, y3, _⟩
    · exact ⟨_, y3⟩
    · exact ⟨_, y3⟩
  · rcases lb_any y1 with ⟨yf, y3, _⟩ | ⟨_, y3, _⟩
    · exact ⟨_, y3⟩
    · exact ⟨_, y3⟩
end CYK
end JnS521
section JnS522
/-! The class: fors are read; blocks of any kind are read. -/
section CYL
variable {σ σ' σ0 τ τ' τ0 : CS} {L : LV} {b : Bool} {T : Nat → Int32} {n q q' u al o v mk mk' p sz sz' szB szE nc nc0 sz0 mk0 a1 a2 m kk f e s0 ow a t0 g D w st w' st' M nm deep vv np lp N Bd nb k d P h st0 b0 it q0 v0 r0 c : Nat} {y qh qh' y0 y1 wd x0 x1 x3 : Int32} {l l' cs cs' cs2 ll lt lt0 co bo : List Int32} {tb tb' es : List Ent} {ns : List Nm} {E : En} {gl : Nat × (Nat → Nat → Prop)} {Vm Vm' : Nat → Prop} {Pc : Nat → Nat → Prop} {MD : Nat → Nat → Nat} {md : Nat → Nat} {bt : BT} {ks qs qs' qa qb js qsI : List Nat} {lo lo' : Option Nat} {s : SB} {α : Type} {S : α → Int32 → CS → Prop} {x : Fl α} {C : Prop} 
/-- a for -/
theorem c_for (hpb : ∀ g, g ≤ f → PBk T n b u al MD g) : PSk T n b u al MD (f + 1) 5 1 := by
  intro E lp o q v pe i l bt s y hq hv hs hB1 ho h25 hG
  have pb := hpb f (Nat.le_refl _)
  have hG' : hT T n q (fun q1 => lb (G T n f 17 E (o + 1) q1 v 0 0 E.2.2.1.length 1 (bNode bt 48 0 (-1) 0)) (fun r => hb (if tkK T n r.1 = 15 then hT T n r.1 (fun q2 => lb (G T n f 0 (seeN E r.2.2.2.2.2) (o + 1) q2 r.2.1 0 0 0 0 (bSet r.2.2.2.2.1 5 bt.1 (nI r.2.2.2.1))) (fun t => some (Sum.inr (t.1, t.2.1, 0, 0, bSet t.2.2.2.2.1 6 bt.1 (nI t.2.2.2.1), s)))) else some (Sum.inr (r.1, r.2.1, 0, 0, bSet r.2.2.2.2.1 5 bt.1 (nI r.2.2.2.1), s))) (fun c => hW T n 44 c.1 (fun q3 => hb (GS T n MD f 0 (seeN E r.2.2.2.2.2) (lp + 1) (o + 1) q3 c.2.1 (nI bt.1) 0 0 c.2.2.2.2.1 s) (fun t => hE T n t.1 (fun q4 => some (Sum.inr (q4, t.2.1, 0, bt.1, bSet t.2.2.2.2.1 7 bt.1 (hd t.2.2.2.1), t.2.2.2.2.2)))))))) = some y := hG
  have tb1 := tkN_b T n q hq
  have g1 := tb1.2.2.2 h25
  rcases hT_any hG' with ⟨w1, w2⟩ | ⟨w1, w2⟩
  · refine ⟨Sum.inl (1, tkN T n q), Or.inl ⟨_, rfl, w2⟩, fun d gl Pc Vm tb mk N w lo qh σ L h zf hbg cx bd hd l1 => ?_⟩
    have s0 := Zy_N h zf hbg
    have u41 := cx.2.2.1
    have i42 : ¬ (nI u < 0 ∨ 42 ≤ (nI u).toNatClampNeg) := u_in (by rw [u_n (by omega)]; omega) (by decide)
    have e03 : σ.1 4003 = nI u := h.2.2.2.2.1.2.1
    refine Tm_suc (fun k => fr1_0 k _ _ _) ?_
    refine Tm_oP (Zy_pp s0) (Tm_oP (Zy_pp s0) ?_)
    refine Tm_chk (by rw [e03]; exact i42) ?_
    exact zt_opens (C := False) s0 (Or.inl ⟨fun z => z.2 w1, oF_b ho rfl⟩) (fun _ _ _ _ c _ _ => c.elim)
  have dd : ∀ {tb : List Ent} {mk sz : Nat} {σ : CS} {d : Nat}, QS T n b u al tb o q v mk 0 sz σ → 4 * (20 - o) ≤ d + 1 → ∃ d1, d = d1 + 2 ∧ 4 * (20 - (o + 1)) + 1 ≤ d1 ∧ o < 20 := by
    intro tb mk sz σ d h hd
    have o20 := h.2.2.2.2.2.1.2
    exact ⟨d - 2, by omega, by omega, by omega⟩
  rcases lb_any w2 with ⟨yf, w3, w4⟩ | ⟨r, w3, w4⟩
  · refine ⟨Sum.inl yf, Or.inl ⟨_, rfl, w4⟩, fun d gl Pc Vm tb mk N w lo qh σ L h zf hbg cx bd hd l1 => ?_⟩
    exact c_for0 w3 w1 ho h zf hbg cx bd h25 (fun _ z => by cases z; rfl) (fun r z => by cases z)
  have hr1 : (tkN T n q ≤ r.1 ∧ r.1 ≤ n) ∧ (v ≤ r.2.1 ∧ r.2.1 ≤ 60) ∧ bt.1 ≤ r.2.2.2.2.1.1 := by
    obtain ⟨x1, a9⟩ := g_mono T n f 17 _ _ _ _ _ _ _ _ _ r tb1.2.1 hv w3 1 (by rw [bNode_1]; omega) (Nat.le_refl _) (Or.inl rfl)
    obtain ⟨a1, a2, a3, a4, a5, _⟩ := x1
    rw [bNode_1] at a5
    exact ⟨⟨a1, a2⟩, ⟨a3, by omega⟩, by omega⟩
  by_cases k15 : tkK T n r.1 = 15
  case neg =>
    rw [if_neg k15] at w4
    obtain ⟨z, sz, run⟩ := c_forT (T := T) (n := n) (b := b) (u := u) (al := al) (MD := MD) (f := f) (o := o) (E := E) (ns := r.2.2.2.2.2) (lp := lp) (s := s) (cq := r.1) (cv := r.2.1) (b0 := bt.1) (bc := bSet r.2.2.2.2.1 5 bt.1 (nI r.2.2.2.1)) (nd := fun _ => bt.1) (bb := fun t => bSet t.2.2.2.2.1 7 bt.1 (hd t.2.2.2.1)) pb hr1.1.2 hr1.2.1.2 hs (by show 1 ≤ r.2.2.2.2.1.1; omega) w4
    refine ⟨z, sz, fun d gl Pc Vm tb mk N w lo qh σ L h zf hbg cx bd hd l1 => ?_⟩
    obtain ⟨d1, ed, hd1, ho1⟩ := dd h hd
    subst ed
    refine c_for0 w3 w1 ho h zf hbg cx bd h25 (fun _ e => by cases e) (fun r' er τ LF n1 n2 fs e15 => ?_)
    cases er
    have kv : ∃ tb' mk' sz, QS T n b u al tb' (o + 1) r.1 r.2.1 mk' 0 sz τ := by
      obtain ⟨es, cs, csR, w2', fi, la, xm, lm, pl, s1, _⟩ := fs
      exact ⟨_, _, _, s1.1.1⟩
    obtain ⟨tb', mk', sz', kv⟩ := kv
    unfold foC
    refine Tm_no (fun e => k15 ((lx_k (kk := 15) kv (by decide)).1 e)) ?_
    exact run d1 gl Pc Vm tb mk N w q v n1 n2 lo qh σ τ LF cx bd hd1 ho1 fs
  rw [if_pos k15] at w4
  have tb2 := tkN_b T n r.1 hr1.1.2
  by_cases w5 : tkK T n (tkN T n r.1) = 0
  · rw [hT_n w5] at w4
    refine ⟨Sum.inl (1, tkN T n r.1), Or.inl ⟨_, rfl, (Option.some.inj w4).symm⟩, fun d gl Pc Vm tb mk N w lo qh σ L h zf hbg cx bd hd l1 => ?_⟩
    obtain ⟨d1, ed, hd1, ho1⟩ := dd h hd
    refine c_for0 w3 w1 ho h zf hbg cx bd h25 (fun _ e => by cases e) (fun r' er τ LF n1 n2 fs e15 => ?_)
    cases er
    exact c_forC (f := 0) (x2 := Sum.inl (1, tkN T n r.1)) (bt' := bt) cx bd ho1 fs e15 k15 (fun _ => rfl) (fun z => absurd w5 z) (fun _ z => by cases z; rfl) (fun z => absurd w5 z)
  rw [hT_y w5] at w4
  obtain ⟨x2, hx2⟩ := gb_ex w4
  rw [hx2] at w4
  cases x2 with
  | inl yf =>
    refine ⟨Sum.inl yf, Or.inl ⟨_, rfl, (Option.some.inj w4).symm⟩, fun d gl Pc Vm tb mk N w lo qh σ L h zf hbg cx bd hd l1 => ?_⟩
    obtain ⟨d1, ed, hd1, ho1⟩ := dd h hd
    refine c_for0 w3 w1 ho h zf hbg cx bd h25 (fun _ e => by cases e) (fun r' er τ LF n1 n2 fs e15 => ?_)
    cases er
    exact c_forC cx bd ho1 fs e15 k15 (fun e => absurd e w5) (fun _ => hx2) (fun _ z => by cases z; rfl) (fun _ t e => by cases e)
  | inr t =>
    have b1 : 1 ≤ (bSet r.2.2.2.2.1 5 bt.1 (nI r.2.2.2.1)).1 := by show 1 ≤ r.2.2.2.2.1.1; omega
    have mo := g_mo0 (bt := bSet r.2.2.2.2.1 5 bt.1 (nI r.2.2.2.1)) tb2.2.1 hr1.2.1.2 b1 hx2
    obtain ⟨z, sz, run⟩ := c_forT (T := T) (n := n) (b := b) (u := u) (al := al) (MD := MD) (f := f) (o := o) (E := E) (ns := r.2.2.2.2.2) (lp := lp) (s := s) (cq := t.1) (cv := t.2.1) (b0 := bt.1) (bc := bSet t.2.2.2.2.1 6 bt.1 (nI t.2.2.2.1)) (nd := fun _ => bt.1) (bb := fun t => bSet t.2.2.2.2.1 7 bt.1 (hd t.2.2.2.1)) pb mo.1.2 mo.2.1.2 hs (by show 1 ≤ t.2.2.2.2.1.1; omega) w4
    refine ⟨z, sz, fun d gl Pc Vm tb mk N w lo qh σ L h zf hbg cx bd hd l1 => ?_⟩
    obtain ⟨d1, ed, hd1, ho1⟩ := dd h hd
    subst ed
    refine c_for0 w3 w1 ho h zf hbg cx bd h25 (fun _ e => by cases e) (fun r' er τ LF n1 n2 fs e15 => ?_)
    cases er
    refine c_forC cx bd ho1 fs e15 k15 (fun e => absurd e w5) (fun _ => hx2) (fun _ e => by cases e) (fun _ t' et τ' m1 m2 fs' => ?_)
    cases et
    exact run d1 gl Pc Vm tb mk N w q v m1 m2 lo qh σ τ' LF cx bd hd1 ho1 fs'
/-- BLOCKS OF ANY KIND ARE READ -/
theorem PBk_all : ∀ f, PBk T n b u al MD f := blk_all (fun f h => c_for h)
end CYL
end JnS522
section JnS523
/-! The class: declarations: a variable is told; names as the reference has them. -/
section DYA
variable {σ σ' σ0 τ τ' τ0 : CS} {L : LV} {b : Bool} {T : Nat → Int32} {n q q' u al o v mk mk' p sz sz' szB nc nc0 sz0 mk0 a1 a2 m kk f w st w' st' r0 c vg : Nat} {y qh : Int32} {l l' cs cs' : List Int32} {tb tb' es : List Ent} {E : En} {gl : Nat × (Nat → Nat → Prop)} {Vm : Nat → Prop} {bt : BT} {lo : Option Nat} {α : Type} {S : α → Int32 → CS → Prop} {x : Fl α} {C : Prop} {bs : List Int32}
/-- a variable of the unit is told -/
theorem c_tv (h : QS T n b u al tb o q v mk 0 sz τ) (zf : ZF b u w st lo qh τ) (hu : u < 42) (hl : v < 60 → tb.length < 256) (hp : w ≤ 1000) (l1 : L.1 1 = nI r0) (hr : r0 ≤ tb.length) {z : Fl Unit} (hx : (∃ y, NmQF T n tb r0 q v y ∧ z = Sum.inl y) ∨ (NmG T n tb r0 q v ∧ z = Sum.inr ())) : Tm (fun k => f_X5_tellVariable k 0 L τ) (ZPo b u tb.length sz mk z (fun _ _ τ' => QS T n b u al (tb ++ [(tkS T n q, 0, u, w, false)]) o (tkN T n q) (v + 1) mk 0 sz τ' ∧ ZF b u (w + 1) st lo qh τ') τ 0 0) := by
  have s0 := Zy_0 h zf
  have e3 : τ.1 4003 = nI u := h.2.2.2.2.1.2.1
  have i42 : ¬ (nI u < 0 ∨ 42 ≤ (nI u).toNatClampNeg) := u_in (by rw [u_n (by omega)]; omega) (by decide)
  refine Tm_suc (fun k => by rw [f_X5_tellVariable]) ?_
  have hx2 : (∃ y, CkF T n tb r0 q v y ∧ z = Sum.inl y) ∨ ((tkK T n q = 26 ∧ (∀ j, r0 ≤ j → j < tb.length → ¬ (tb.getD j e0E).1 = tkS T n q) ∧ ¬ v = 60) ∧ (tkK T n q = 26 ∧ (¬ v = 60) ∧ ((tkK T n (tkN T n q) = 0 ∧ z = Sum.inl (1, tkN T n q)) ∨ (¬ tkK T n (tkN T n q) = 0 ∧ z = Sum.inr ())))) := by
    rcases hx with ⟨y, w1 | ⟨w1, w3, w4⟩, w2⟩ | ⟨w1, w2⟩
    · exact Or.inl ⟨y, w1, w2⟩
    · exact Or.inr ⟨w1, w1.1, w1.2.2, Or.inl ⟨w3, by rw [w2, w4]⟩⟩
    · exact Or.inr ⟨⟨w1.1, w1.2.1, w1.2.2.1⟩, w1.1, w1.2.2.1, Or.inr ⟨w1.2.2.2, w2⟩⟩
  refine zt_chk (L := lI lZ 1 (L.1 1)) (f' := fun k r1 => oP (sPp r1.2.1) (fun b2 => if ¬ (((r1.2.1.1 4003)) < 0 ∨ 42 ≤ ((r1.2.1.1 4003)).toNatClampNeg) then (if ¬ (((r1.2.1.1 4003)) < 0 ∨ 42 ≤ ((r1.2.1.1 4003)).toNatClampNeg) then (oP (sPp (uA r1.2.1 (pR17 b2) ((r1.2.1.1 4003)).toNatClampNeg ((((r1.2.1.2.2.1 (pR17 b2) ((r1.2.1.1 4003)).toNatClampNeg)) + 1)))) (fun b5 => oP (sPp (uA r1.2.1 (pR17 b2) ((r1.2.1.1 4003)).toNatClampNeg ((((r1.2.1.2.2.1 (pR17 b2) ((r1.2.1.1 4003)).toNatClampNeg)) + 1)))) (fun b6 => op (y_X7_newSlots__P k 0 (lI (lI (lB lZ 0 b6) 1 (((uA r1.2.1 (pR17 b2) ((r1.2.1.1 4003)).toNatClampNeg ((((r1.2.1.2.2.1 (pR17 b2) ((r1.2.1.1 4003)).toNatClampNeg)) + 1))).1 4003))) 2 1) (uA r1.2.1 (pR17 b2) ((r1.2.1.1 4003)).toNatClampNeg ((((r1.2.1.2.2.1 (pR17 b2) ((r1.2.1.1 4003)).toNatClampNeg)) + 1)))) (fun r7 => op (y_X7_tell__P k 0 (lI (lI (lI (lJ (lJ (lB lZ 0 b5) 1 (((uA r1.2.1 (pR17 b2) ((r1.2.1.1 4003)).toNatClampNeg ((((r1.2.1.2.2.1 (pR17 b2) ((r1.2.1.1 4003)).toNatClampNeg)) + 1))).2.1 3705))) 3 (((uA r1.2.1 (pR17 b2) ((r1.2.1.1 4003)).toNatClampNeg ((((r1.2.1.2.2.1 (pR17 b2) ((r1.2.1.1 4003)).toNatClampNeg)) + 1))).2.1 3706))) 5 0) 6 (((uA r1.2.1 (pR17 b2) ((r1.2.1.1 4003)).toNatClampNeg ((((r1.2.1.2.2.1 (pR17 b2) ((r1.2.1.1 4003)).toNatClampNeg)) + 1))).1 4003))) 7 r7.1) r7.2) (fun r8 => ox (f_X2_advance k 0 lZ r8.2) (fun r9 => some ((0, 0), r9.2.1, (0, 0)))))))) else none) else none)) s0 hu l1 hr hx2 (fun τ1 ret1 m1 m2 c1 s1 => ?_)
  obtain ⟨k26, v60, c1⟩ := c1
  have hl := hl (by have := h.2.2.2.2.2.2.1.2; omega)
  have e31 : τ1.1 4003 = nI u := s1.1.1.2.2.2.2.1.2.1
  have cl : (nI u).toNatClampNeg = u := n_cl (p := u) (by omega)
  refine Tm_oP (Zy_pp s1) ?_
  show Tm (fun k => if ¬ (τ1.1 4003 < 0 ∨ 42 ≤ (τ1.1 4003).toNatClampNeg) then (if ¬ (τ1.1 4003 < 0 ∨ 42 ≤ (τ1.1 4003).toNatClampNeg) then (oP (sPp τ1) (fun b5 => oP (sPp τ1) (fun b6 => op (y_X7_newSlots__P k 0 (lI (lI (lB lZ 0 b6) 1 (τ1.1 4003)) 2 1) (uA τ1 (pR17 b) (τ1.1 4003).toNatClampNeg (τ1.2.2.1 (pR17 b) (τ1.1 4003).toNatClampNeg + 1))) (fun r7 => op (y_X7_tell__P k 0 (lI (lI (lI (lJ (lJ (lB lZ 0 b5) 1 (τ1.2.1 3705)) 3 (τ1.2.1 3706)) 5 0) 6 (τ1.1 4003)) 7 r7.1) r7.2) (fun r8 => ox (f_X2_advance k 0 lZ r8.2) (fun r9 => some ((0, 0), r9.2.1, (0, 0)))))))) else none) else none) _
  rw [e31, cl]
  have i42' := i42
  rw [cl] at i42'
  refine Tm_chk i42' (Tm_chk i42' ?_)
  have s1' : Zy T n b u al τ tb.length sz mk (0 + m1) (0 + m2) tb o q (v + 1) mk w st lo qh sz [] (uA τ1 (pR17 b) u (τ1.2.2.1 (pR17 b) u + 1)) := by
    have pc2 := pR18_c b
    exact Zy_r s1 (Or.inl rfl) (ZF_e s1.2.2 (fun _ _ => rfl) (by rw [uA_k (by omega)]) rfl)
  refine Tm_oP (Zy_pp s1) (Tm_oP (Zy_pp s1) ?_)
  have ns1 := c_newSlots (L := lI (lI (lB lZ 0 b) 1 (nI u)) 2 1) (k0 := 1) s1' hu (by omega) rfl rfl rfl
  refine Tm_op ns1 (fun r2 z2 => ?_)
  obtain ⟨er2, s2⟩ := z2
  have okn : okN (tkS T n q) := (s2.1.1.1.2.2.2.2.2.2.2.2 k26).2
  have ky := (s1.1.1.1.2.2.2.2.2.2.2.2 k26).1
  refine Tm_op (c_tell (bs := tkS T n q) (w0 := 0) (o0 := u) (s0 := w) s2.1.1.2.2.2.1 hl rfl okn ky.1 ky.2 rfl rfl er2) (fun r3 z3 => ?_)
  have s3 := Zy_tb s2 z3 (Nat.le_refl _) (by rw [List.length_append]; omega)
  refine zt_adv s3 c1 (fun τ5 ret5 m3 m4 c5 s5 xk5 => ?_)
  rw [c5]
  exact Tm_some (Zfin s5 ⟨s5.1.1, s5.2.2⟩)
theorem zt_tv {f' : Nat → RS → Option RS} (h : Zy T n b u al σ0 nc0 sz0 mk0 a1 a2 tb o q v mk w st lo qh szB cs τ) (hu : u < 42) (hl : v < 60 → tb.length < 256) (hp : w ≤ 1000) (l1 : L.1 1 = nI r0) (hr : r0 ≤ tb.length) (hx : (∃ y, NmQF T n tb r0 q v y ∧ x = Sum.inl y) ∨ (NmG T n tb r0 q v ∧ C)) (cont : ∀ (τ' : CS) (ret : Int32) (n1 n2 : Nat), C → Zy T n b u al σ0 nc0 sz0 mk0 (a1 + n1) (a2 + n2) (tb ++ [(tkS T n q, 0, u, w, false)]) o (tkN T n q) (v + 1) mk (w + 1) st lo qh szB cs τ' → ZK b u tb.length (szB + cs.length) mk τ τ' → Tm (fun k => f' k ((0, ret), τ', (n1, n2))) (ZPo b u nc0 sz0 mk0 x S σ0 (a1 + n1) (a2 + n2))) : Tm (fun k => ox (f_X5_tellVariable k 0 L τ) (f' k)) (ZPo b u nc0 sz0 mk0 x S σ0 a1 a2) := by
  rcases hx with ⟨y0, w1, w2⟩ | ⟨w1, c⟩
  · exact zt_callZ (C := True) h (c_tv h.1.1 h.2.2 hu hl hp l1 hr (Or.inl ⟨y0, w1, rfl⟩)) (Or.inl ⟨_, rfl, w2⟩)
  · exact zt_callZ (C := C) h (c_tv h.1.1 h.2.2 hu hl hp l1 hr (Or.inr ⟨w1, rfl⟩)) (Or.inr ⟨(), rfl, c, fun τ' ret n1 n2 hq zk hc => cont τ' ret n1 n2 c (Zy_c0 h hq.1 zk hc (by rw [List.length_append]; have := h.1.2.2.2.1; omega) h.1.2.2.2.2.2 hq.2) zk⟩)
/-- a global, a local, as the class's table has them -/
def gEn (x : Gn) : Ent := (x.1, x.2.2.1 - 1, 0, (if x.2.2.1 = 1 then x.2.2.2 else x.2.2.2 + 1), false)
def lEn (u : Nat) (x : Nm) : Ent := (x.1, 0, u, x.2.2, false)
def tbE (u : Nat) (E : En) : List Ent := E.1.map gEn ++ E.2.1.reverse.map (lEn u)
/-- what is told: vg globals, nc callables, v variables of the unit -/
def DE (E : En) (u vg nc v : Nat) : Prop := (E.2.2.2.1 = u ∧ (u = 0 → E.2.1 = [] ∧ vg = v) ∧ (¬ u = 0 → E.2.1.length = v)) ∧ (E.1.length = vg + nc ∧ vg ≤ 60 ∧ nc ≤ 40 ∧ v ≤ 60) ∧ E.1.Pairwise (fun a b => ¬ a.1 = b.1) ∧ (∀ x, x ∈ E.1 → okN x.1 ∧ ((x.2.2.1 = 1 ∧ x.2.2.2 < vg) ∨ ((x.2.2.1 = 2 ∨ x.2.2.1 = 3) ∧ x.2.2.2 < nc))) ∧ ∀ x, x ∈ E.2.1 → okN x.1 ∧ x.2.2 < v
theorem tbE_l (u : Nat) (E : En) : (tbE u E).length = E.1.length + E.2.1.length := by
  unfold tbE
  rw [List.length_append, List.length_map, List.length_map, List.length_reverse]
theorem gD_get {l : List Ent} {j : Nat} (h : j < l.length) : l.getD j e0E = l[j] := by
  rw [List.getD_eq_getElem?_getD, List.getElem?_eq_getElem h]
  rfl
theorem gD_ap {l l2 : List Ent} {j : Nat} (h : l.length ≤ j) : (l ++ l2).getD j e0E = l2.getD (j - l.length) e0E := by
  rw [List.getD_eq_getElem?_getD, List.getD_eq_getElem?_getD, List.getElem?_append_right h]
theorem gd_mem {l : List Ent} {P : Ent → Prop} : (∀ j, j < l.length → P (l.getD j e0E)) ↔ ∀ e, e ∈ l → P e := by
  constructor
  · intro h e he
    obtain ⟨j, hj, ej⟩ := List.getElem_of_mem he
    have := h j hj
    rw [gD_get hj, ej] at this
    exact this
  · intro h j hj
    rw [gD_get hj]
    exact h _ (List.getElem_mem hj)
theorem gd_memR {l l2 : List Ent} {P : Ent → Prop} : (∀ j, l.length ≤ j → j < (l ++ l2).length → P ((l ++ l2).getD j e0E)) ↔ ∀ e, e ∈ l2 → P e := by
  rw [← gd_mem]
  constructor
  · intro h j hj
    have := h (l.length + j) (by omega) (by rw [List.length_append]; omega)
    rw [gD_ap (by omega), Nat.add_sub_cancel_left] at this
    exact this
  · intro h j h1 h2
    rw [gD_ap h1]
    exact h _ (by rw [List.length_append] at h2; omega)
theorem fi_none {β : Type} {l : List β} {p : β → Bool} : (l.find? p).isSome = false ↔ ∀ x, x ∈ l → ¬ p x = true := by
  constructor
  · intro h x hx hp
    have e : (l.find? p).isSome = true := List.find?_isSome.2 ⟨x, hx, hp⟩
    rw [h] at e
    cases e
  · intro h
    cases e : (l.find? p).isSome with
    | false => rfl
    | true =>
      obtain ⟨x, hx, hp⟩ := List.find?_isSome.1 e
      exact absurd hp (h x hx)
/-- what a name is found as -/
theorem fd_cs (E : En) (bs : List Int32) : (∃ x, x ∈ E.2.1 ∧ x.1 = bs ∧ (fd E bs).1 = 1) ∨ ((∀ x, x ∈ E.2.1 → ¬ x.1 = bs) ∧ ∃ x, x ∈ E.1 ∧ x.1 = bs ∧ E.1.find? (fun x => decide (x.1 = bs)) = some x ∧ (fd E bs).1 = x.2.2.1 ∧ (fd E bs).2.1 = x.2.2.2) ∨ ((∀ x, x ∈ E.2.1 → ¬ x.1 = bs) ∧ (∀ x, x ∈ E.1 → ¬ x.1 = bs) ∧ (fd E bs).1 = 0) := by
  unfold fd
  cases e : E.2.1.find? (fun x => decide (x.1 = bs)) with
  | some x => exact Or.inl ⟨x, List.mem_of_find?_eq_some e, of_decide_eq_true (List.find?_some (p := fun x : Nm => decide (x.1 = bs)) e), rfl⟩
  | none =>
    have n1 : ∀ x, x ∈ E.2.1 → ¬ x.1 = bs := fun x hx hp => by
      have := List.find?_eq_none.1 e x hx
      exact this (decide_eq_true hp)
    right
    cases e2 : E.1.find? (fun x => decide (x.1 = bs)) with
    | some x => exact Or.inl ⟨n1, x, List.mem_of_find?_eq_some e2, of_decide_eq_true (List.find?_some (p := fun x : Gn => decide (x.1 = bs)) e2), rfl, rfl, rfl⟩
    | none =>
      refine Or.inr ⟨n1, fun x hx hp => ?_, rfl⟩
      have := List.find?_eq_none.1 e2 x hx
      exact this (decide_eq_true hp)
theorem mem_g {e : Ent} : e ∈ E.1.map gEn ↔ ∃ x, x ∈ E.1 ∧ gEn x = e := List.mem_map
theorem mem_l {e : Ent} : e ∈ E.2.1.reverse.map (lEn u) ↔ ∃ x, x ∈ E.2.1 ∧ lEn u x = e := by
  rw [List.mem_map]
  exact ⟨fun ⟨x, h1, h2⟩ => ⟨x, List.mem_reverse.1 h1, h2⟩, fun ⟨x, h1, h2⟩ => ⟨x, List.mem_reverse.2 h1, h2⟩⟩
/-- told before, among all -/
theorem told_0 (e2 : E.2.1 = []) (hg : ∀ x, x ∈ E.1 → ¬ x.2.2.1 = 0) : (∀ j, 0 ≤ j → j < (tbE u E).length → ¬ ((tbE u E).getD j e0E).1 = bs) ↔ (fd E bs).1 = 0 := by
  have h1 : (∀ j, 0 ≤ j → j < (tbE u E).length → ¬ ((tbE u E).getD j e0E).1 = bs) ↔ ∀ e, e ∈ tbE u E → ¬ e.1 = bs := by
    rw [← gd_mem (P := fun e => ¬ e.1 = bs)]
    exact ⟨fun h j hj => h j (Nat.zero_le _) hj, fun h j _ hj => h j hj⟩
  rw [h1]
  constructor
  · intro h
    rcases fd_cs E bs with ⟨x, y1, _⟩ | ⟨_, x, y1, y2, _⟩ | ⟨_, _, y3⟩
    · rw [e2] at y1; exact absurd y1 List.not_mem_nil
    · exact absurd y2 (h (gEn x) (List.mem_append_left _ (mem_g.2 ⟨x, y1, rfl⟩)))
    · exact y3
  · intro h e he eb
    rcases List.mem_append.1 he with z | z
    · obtain ⟨x, z1, z2⟩ := mem_g.1 z
      rw [← z2] at eb
      rcases fd_cs E bs with ⟨x', y1, _⟩ | ⟨_, x', y1, y2, _, y4, _⟩ | ⟨_, y2, y3⟩
      · rw [e2] at y1; exact absurd y1 List.not_mem_nil
      · rw [y4] at h; exact hg x' y1 h
      · exact y2 x z1 eb
    · obtain ⟨x, z1, _⟩ := mem_l.1 z
      rw [e2] at z1
      exact absurd z1 List.not_mem_nil
/-- told before, in the unit -/
theorem told_1 : (∀ j, E.1.length ≤ j → j < (tbE u E).length → ¬ ((tbE u E).getD j e0E).1 = bs) ↔ (E.2.1.find? (fun x => decide (x.1 = bs))).isSome = false := by
  have el : E.1.length = (E.1.map gEn).length := (List.length_map _).symm
  rw [el, fi_none]
  unfold tbE
  rw [gd_memR (P := fun e => ¬ e.1 = bs)]
  constructor
  · intro h x hx hp
    exact h (lEn u x) (mem_l.2 ⟨x, hx, rfl⟩) (of_decide_eq_true hp)
  · intro h e he eb
    obtain ⟨x, z1, z2⟩ := mem_l.1 he
    rw [← z2] at eb
    exact h x z1 (decide_eq_true eb)
def VmD (v : Nat) : Nat → Prop := fun i => ∃ s, s < v ∧ i = 500000 + s
def glD (E : En) (vg : Nat) : Nat × (Nat → Nat → Prop) := (vg, fun w np => ∃ x, x ∈ E.1 ∧ x.2.2.1 = 2 ∧ w = x.2.2.2 + 1 ∧ np = E.2.2.2.2.2.2 x.2.2.2)
def PcD (E : En) : Nat → Nat → Prop := fun w np => ∃ x, x ∈ E.1 ∧ x.2.2.1 = 3 ∧ w = x.2.2.2 + 1 ∧ np = E.2.2.2.2.2.2 x.2.2.2
theorem pw_inj {l : List Gn} (h : l.Pairwise (fun a b => ¬ a.1 = b.1)) : ∀ x y, x ∈ l → y ∈ l → x.1 = y.1 → x = y := by
  induction l with
  | nil => exact fun x y hx => absurd hx List.not_mem_nil
  | cons a l ih =>
    rw [List.pairwise_cons] at h
    intro x y hx hy e
    rcases List.mem_cons.1 hx with z | z <;> rcases List.mem_cons.1 hy with t | t
    · rw [z, t]
    · exact absurd (by rw [← z]; exact e) (h.1 y t)
    · exact absurd (by rw [← t]; exact e.symm) (h.1 x z)
    · exact ih h.2 x y z t e
/-- names here and there -/
theorem NmR_E (pw : E.1.Pairwise (fun a b => ¬ a.1 = b.1)) (hg : ∀ x, x ∈ E.1 → okN x.1 ∧ ((x.2.2.1 = 1 ∧ x.2.2.2 < vg) ∨ ((x.2.2.1 = 2 ∨ x.2.2.1 = 3) ∧ x.2.2.2 < nc))) (hl : ∀ x, x ∈ E.2.1 → x.2.2 < v) (hv : v ≤ 60) (hn : nc ≤ 40) (hvg : vg ≤ 60) (h0 : u = 0 → vg ≤ v) (hu : u < 42) : NmR E u (glD E vg) (VmD v) (tbE u E) := by
  refine ⟨by show vg ≤ 1000; omega, fun bs okb => ⟨fun i hi => ?_, fun hn' => ?_⟩⟩
  · obtain ⟨i1, ⟨i2, i3⟩, i4⟩ := hi
    have ie := List.getElem_mem i1
    have ig : (tbE u E).getD i e0E = (tbE u E)[i] := gD_get i1
    rcases List.mem_append.1 ie with z | z
    · obtain ⟨x, z1, z2⟩ := mem_g.1 z
      have iA : ¬ E.1.length ≤ i ∨ ∃ y, y ∈ E.2.1 ∧ lEn u y = (tbE u E).getD i e0E := by
        by_cases c : E.1.length ≤ i
        · right
          have h := gd_memR (l := E.1.map gEn) (l2 := E.2.1.reverse.map (lEn u)) (P := fun e => e ∈ E.2.1.reverse.map (lEn u))
          have := h.2 (fun e he => he) i (by rw [List.length_map]; exact c) i1
          exact mem_l.1 this
        · exact Or.inl c
      rcases iA with iA | ⟨y, y1, y2⟩
      · have nl : ∀ y, y ∈ E.2.1 → ¬ y.1 = bs := fun y hy eb => by
          obtain ⟨j, hj, ej⟩ := List.getElem_of_mem (mem_l.2 ⟨y, hy, rfl⟩ : lEn u y ∈ E.2.1.reverse.map (lEn u))
          have g2 : (tbE u E).getD ((E.1.map gEn).length + j) e0E = lEn u y := by
            unfold tbE
            rw [gD_ap (by omega), Nat.add_sub_cancel_left, gD_get hj, ej]
          have := i4 ((E.1.map gEn).length + j) (by rw [List.length_map]; omega) (by unfold tbE; rw [List.length_append]; omega)
          rw [g2] at this
          exact this ⟨eb, rfl⟩
        have xb : x.1 = bs := by rw [ig, ← z2] at i2; exact i2
        rw [ig, ← z2]
        rcases fd_cs E bs with ⟨y, y1, y2, _⟩ | ⟨_, x', y1, y2, _, y4, y5⟩ | ⟨_, y2, _⟩
        · exact absurd y2 (nl y y1)
        · have ex : x' = x := pw_inj pw x' x y1 z1 (y2.trans xb.symm)
          subst ex
          obtain ⟨_, k⟩ := hg x' z1
          rcases k with ⟨k1, k2⟩ | ⟨k1, k2⟩
          · have eg : gEn x' = (x'.1, 0, 0, x'.2.2.2, false) := by unfold gEn; rw [k1, if_pos rfl]
            rw [eg]
            refine ⟨⟨by show 0 ≤ 3; omega, by show 0 < 42; omega⟩, fun _ => ⟨y4.trans k1, fun e => ?_, fun _ => k2⟩, fun e => absurd e (by show ¬ 0 = 3; decide), fun e => absurd e (by show ¬ 0 = 1; decide), fun e => absurd e (by show ¬ 0 = 2; decide)⟩
            have e' : u = 0 := e.symm
            have := h0 e'
            exact ⟨by show x'.2.2.2 < 200; omega, x'.2.2.2, by omega, rfl⟩
          · rcases k1 with k1 | k1
            · have eg : gEn x' = (x'.1, 1, 0, x'.2.2.2 + 1, false) := by unfold gEn; rw [k1, if_neg (by decide)]
              rw [eg]
              refine ⟨⟨by show 1 ≤ 3; omega, by show 0 < 42; omega⟩, fun e => absurd e (by show ¬ 1 = 0; decide), fun e => absurd e (by show ¬ 1 = 3; decide), fun _ => ⟨y4.trans k1, by show x'.2.2.2 + 1 < 41; omega, by rw [y5], ?_⟩, fun e => absurd e (by show ¬ 1 = 2; decide)⟩
              exact ⟨x', z1, k1, rfl, by rw [y5]⟩
            · have eg : gEn x' = (x'.1, 2, 0, x'.2.2.2 + 1, false) := by unfold gEn; rw [k1, if_neg (by decide)]
              rw [eg]
              exact ⟨⟨by show 2 ≤ 3; omega, by show 0 < 42; omega⟩, fun e => absurd e (by show ¬ 2 = 0; decide), fun e => absurd e (by show ¬ 2 = 3; decide), fun e => absurd e (by show ¬ 2 = 1; decide), fun _ => ⟨y4.trans k1, by show x'.2.2.2 + 1 < 41; omega, by rw [y5]⟩⟩
        · exact absurd xb (y2 x z1)
      · rw [← y2] at i2 ⊢
        have f1 : (fd E bs).1 = 1 := by
          rcases fd_cs E bs with ⟨_, _, _, t⟩ | ⟨t, _⟩ | ⟨t, _⟩
          · exact t
          · exact absurd i2 (t y y1)
          · exact absurd i2 (t y y1)
        have := hl y y1
        exact ⟨⟨by show 0 ≤ 3; omega, hu⟩, fun _ => ⟨f1, fun _ => ⟨by show y.2.2 < 200; omega, y.2.2, this, rfl⟩, fun e => absurd rfl e⟩, fun e => absurd e (by show ¬ 0 = 3; decide), fun e => absurd e (by show ¬ 0 = 1; decide), fun e => absurd e (by show ¬ 0 = 2; decide)⟩
    · obtain ⟨y, y1, y2⟩ := mem_l.1 z
      rw [ig, ← y2] at i2
      rw [ig, ← y2]
      have f1 : (fd E bs).1 = 1 := by
        rcases fd_cs E bs with ⟨_, _, _, t⟩ | ⟨t, _⟩ | ⟨t, _⟩
        · exact t
        · exact absurd i2 (t y y1)
        · exact absurd i2 (t y y1)
      have := hl y y1
      exact ⟨⟨by show 0 ≤ 3; omega, hu⟩, fun _ => ⟨f1, fun _ => ⟨by show y.2.2 < 200; omega, y.2.2, this, rfl⟩, fun e => absurd rfl e⟩, fun e => absurd e (by show ¬ 0 = 3; decide), fun e => absurd e (by show ¬ 0 = 1; decide), fun e => absurd e (by show ¬ 0 = 2; decide)⟩
  · have hm := (gd_mem (l := tbE u E) (P := fun e => ¬ (e.1 = bs ∧ e.2.2.2.2 = false))).1 hn'
    rcases fd_cs E bs with ⟨x, y1, y2, _⟩ | ⟨_, x, y1, y2, _⟩ | ⟨_, _, y3⟩
    · exact absurd ⟨y2, rfl⟩ (hm (lEn u x) (List.mem_append_right _ (mem_l.2 ⟨x, y1, rfl⟩)))
    · exact absurd ⟨y2, rfl⟩ (hm (gEn x) (List.mem_append_left _ (mem_g.2 ⟨x, y1, rfl⟩)))
    · exact y3
theorem PcE_E : PcE E (PcD E) := fun bs okb hf => by
  rcases fd_cs E bs with ⟨_, _, _, t⟩ | ⟨_, x, y1, y2, _, y4, y5⟩ | ⟨_, _, t⟩
  · omega
  · exact ⟨x, y1, by rw [← y4]; exact hf, by rw [y5], by rw [y5]⟩
  · omega
theorem tbE_3 : ∀ i, i < (tbE u E).length → (∀ x, x ∈ E.1 → x.2.2.1 ≤ 3) → ¬ ((tbE u E).getD i e0E).2.1 = 3 := by
  intro i hi hk
  refine (gd_mem (l := tbE u E) (P := fun e => ¬ e.2.1 = 3)).2 (fun e he => ?_) i hi
  rcases List.mem_append.1 he with z | z
  · obtain ⟨x, z1, z2⟩ := mem_g.1 z
    have := hk x z1
    rw [← z2]
    show ¬ x.2.2.1 - 1 = 3
    omega
  · obtain ⟨x, z1, z2⟩ := mem_l.1 z
    rw [← z2]
    show ¬ 0 = 3
    decide
end DYA
end JnS523
section JnS524
/-! The class: declarations: rows of variables are read. -/
section DYB
variable {σ σ' σ0 τ τ' τ0 : CS} {L L2 : LV} {b : Bool} {T : Nat → Int32} {n q q' q0 u al o v mk mk' p sz sz' szB nc nc0 sz0 mk0 a1 a2 m kk f w st w' st' r0 c vg vg' vg0 N : Nat} {y qh : Int32} {l l' cs cs' : List Int32} {tb tb' es : List Ent} {E E' E0 E1 : En} {gl : Nat × (Nat → Nat → Prop)} {Vm : Nat → Prop} {bt : BT} {lo : Option Nat} {α β : Type} {S : α → Int32 → CS → Prop} {x : Fl α} {C : Prop} {bs : List Int32}
/-- variables were told besides -/
def DxR (u : Nat) (E0 E : En) : Prop := E.2.2 = E0.2.2 ∧ (¬ u = 0 → E.1 = E0.1) ∧ (∀ x, x ∈ E.1 → x ∈ E0.1 ∨ x.2.2.1 = 1) ∧ ∀ x, x ∈ E0.1 → x ∈ E.1
theorem DxR_r (u : Nat) (E : En) : DxR u E E := ⟨rfl, fun _ => rfl, fun _ h => Or.inl h, fun _ h => h⟩
theorem DxR_t (a : DxR u E0 E1) (d : DxR u E1 E) : DxR u E0 E := ⟨d.1.trans a.1, fun h => (d.2.1 h).trans (a.2.1 h), fun x hx => (d.2.2.1 x hx).elim (fun z => a.2.2.1 x z) Or.inr, fun x hx => d.2.2.2 x (a.2.2.2 x hx)⟩
/-- a local is told -/
theorem gl_any {k : DV → Option (Fl β)} {y : Fl β} (de : DE E u vg nc v) (hu : ¬ u = 0) (ok : tkK T n q = 26 → okN (tkS T n q)) (h : gTl T n E q v bt k = some y) : (∃ yf, NmQF T n (tbE u E) E.1.length q v yf ∧ y = Sum.inl yf) ∨ (NmG T n (tbE u E) E.1.length q v ∧ ∃ E' b', tbE u E' = tbE u E ++ [(tkS T n q, 0, u, v, false)] ∧ DE E' u vg nc (v + 1) ∧ DxR u E E' ∧ bt.1 ≤ b'.1 ∧ k (tkN T n q, E', v + 1, b') = some y) := by
  obtain ⟨⟨d1, d2, d2'⟩, ⟨d3, d4, d5, d6⟩, d7, d8, d9⟩ := de
  rcases gTl_any h with ⟨w1, w2⟩ | ⟨⟨⟨w1, w2, w3⟩, w4⟩, w5⟩
  · refine Or.inl ⟨_, ?_, w2⟩
    by_cases k26 : tkK T n q = 26
    · by_cases fi : (E.2.1.find? (fun x => decide (x.1 = tkS T n q))).isSome = false
      · have ft := (told_1 (u := u)).2 fi
        by_cases v60 : v = 60
        · rw [tvF_8 k26 fi v60]; exact Or.inl (Or.inr (Or.inr ⟨k26, ft, v60, rfl⟩))
        · rw [tvF_1 k26 fi v60]; exact Or.inr ⟨⟨k26, ft, v60⟩, Classical.byContradiction (fun z => w1 ⟨⟨k26, fi, v60⟩, z⟩), rfl⟩
      · rw [tvF_4 k26 (by cases hh : (E.2.1.find? (fun x => decide (x.1 = tkS T n q))).isSome with
          | true => rfl
          | false => exact absurd hh fi)]
        exact Or.inl (Or.inr (Or.inl ⟨k26, fun z => fi (told_1.1 z), rfl⟩))
    · rw [tvF_2 k26]; exact Or.inl (Or.inl ⟨k26, rfl⟩)
  · refine Or.inr ⟨⟨w1, told_1.2 w2, w3, w4⟩, eTl T n E q v bt, bTl T n E q v bt, ?_, ⟨⟨d1, fun e => absurd e hu, fun _ => ?_⟩, ⟨d3, d4, d5, by omega⟩, d7, d8, fun x hx => ?_⟩, ⟨rfl, fun _ => rfl, fun _ h => Or.inl h, fun _ h => h⟩, Nat.le_refl _, w5⟩
    · show E.1.map gEn ++ ((tkS T n q, bt.2.1, v) :: E.2.1).reverse.map (lEn u) = (E.1.map gEn ++ E.2.1.reverse.map (lEn u)) ++ [(tkS T n q, 0, u, v, false)]
      rw [List.reverse_cons, List.map_append, List.append_assoc]
      rfl
    · show E.2.1.length + 1 = v + 1
      rw [d2' hu]
    · rcases List.mem_cons.1 (show x ∈ (tkS T n q, bt.2.1, v) :: E.2.1 from hx) with z | z
      · rw [z]
        exact ⟨ok w1, by show v < v + 1; omega⟩
      · exact ⟨(d9 x z).1, by have := (d9 x z).2; omega⟩
/-- a global is told -/
theorem ge_any {k : DV → Option (Fl β)} {y : Fl β} (de : DE E 0 vg nc v) (ok : tkK T n q = 26 → okN (tkS T n q)) (h : gTe T n E q v bt k = some y) : (∃ yf, NmQF T n (tbE 0 E) 0 q v yf ∧ y = Sum.inl yf) ∨ (NmG T n (tbE 0 E) 0 q v ∧ ∃ E' b', tbE 0 E' = tbE 0 E ++ [(tkS T n q, 0, 0, v, false)] ∧ DE E' 0 (v + 1) nc (v + 1) ∧ DxR 0 E E' ∧ bt.1 ≤ b'.1 ∧ k (tkN T n q, E', v + 1, b') = some y) := by
  obtain ⟨⟨d1, d2, d2'⟩, ⟨d3, d4, d5, d6⟩, d7, d8, d9⟩ := de
  obtain ⟨e21, evg⟩ := d2 rfl
  have hk : ∀ x, x ∈ E.1 → ¬ x.2.2.1 = 0 := fun x hx => by have := (d8 x hx).2; omega
  have t0 := told_0 (u := 0) (bs := tkS T n q) e21 hk
  rcases gTe_any h with ⟨w1, w2⟩ | ⟨⟨⟨w1, w2, w3⟩, w4⟩, w5⟩
  · refine Or.inl ⟨_, ?_, w2⟩
    by_cases k26 : tkK T n q = 26
    · by_cases fi : (fd E (tkS T n q)).1 = 0
      · have ft := t0.2 fi
        by_cases v60 : v = 60
        · rw [teF_8 k26 fi v60]; exact Or.inl (Or.inr (Or.inr ⟨k26, ft, v60, rfl⟩))
        · rw [teF_1 k26 fi v60]; exact Or.inr ⟨⟨k26, ft, v60⟩, Classical.byContradiction (fun z => w1 ⟨⟨k26, fi, v60⟩, z⟩), rfl⟩
      · rw [teF_4 k26 fi]; exact Or.inl (Or.inr (Or.inl ⟨k26, fun z => fi (t0.1 z), rfl⟩))
    · rw [teF_2 k26]; exact Or.inl (Or.inl ⟨k26, rfl⟩)
  · have nn : ∀ x, x ∈ E.1 → ¬ x.1 = tkS T n q := by
      rcases fd_cs E (tkS T n q) with ⟨_, _, _, t⟩ | ⟨_, x, y1, _, _, y4, _⟩ | ⟨_, t, _⟩
      · omega
      · exact absurd (y4.symm.trans w2) (hk x y1)
      · exact t
    refine Or.inr ⟨⟨w1, t0.2 w2, w3, w4⟩, eTe T n E q v bt, bTl T n E q v bt, ?_, ⟨⟨d1, fun _ => ⟨e21, rfl⟩, fun e => absurd rfl e⟩, ⟨?_, by omega, d5, by omega⟩, ?_, fun x hx => ?_, fun x hx => ?_⟩, ⟨rfl, fun e => absurd rfl e, fun x hx => ?_, fun x hx => List.mem_append_left _ hx⟩, Nat.le_refl _, w5⟩
    · show (E.1 ++ [(tkS T n q, bt.2.1, 1, v)]).map gEn ++ E.2.1.reverse.map (lEn 0) = (E.1.map gEn ++ E.2.1.reverse.map (lEn 0)) ++ [(tkS T n q, 0, 0, v, false)]
      rw [e21, List.map_append]
      show _ ++ [] = (_ ++ []) ++ _
      rw [List.append_nil, List.append_nil]
      rfl
    · show (E.1 ++ [(tkS T n q, bt.2.1, 1, v)]).length = v + 1 + nc
      rw [List.length_append, d3, evg]
      show v + nc + 1 = _
      omega
    · show (E.1 ++ [(tkS T n q, bt.2.1, 1, v)]).Pairwise _
      rw [List.pairwise_append]
      exact ⟨d7, List.pairwise_singleton _ _, fun a ha c hc => by rw [List.mem_singleton.1 hc]; exact nn a ha⟩
    · rcases List.mem_append.1 (show x ∈ E.1 ++ [(tkS T n q, bt.2.1, 1, v)] from hx) with z | z
      · exact ⟨(d8 x z).1, by have := (d8 x z).2; omega⟩
      · rw [List.mem_singleton.1 z]
        exact ⟨ok w1, Or.inl ⟨rfl, by show v < v + 1; omega⟩⟩
    · rw [show (eTe T n E q v bt).2.1 = [] from e21] at hx
      exact absurd hx List.not_mem_nil
    · rcases List.mem_append.1 (show x ∈ E.1 ++ [(tkS T n q, bt.2.1, 1, v)] from hx) with z | z
      · exact Or.inl z
      · rw [List.mem_singleton.1 z]
        exact Or.inr rfl
/-- where the names begin that a new one must differ from -/
def r0U (u : Nat) (E : En) : Nat := if u = 0 then 0 else E.1.length
theorem gv_any {k : DV → Option (Fl β)} {y : Fl β} (de : DE E u vg nc v) (ok : tkK T n q = 26 → okN (tkS T n q)) (h : (if E.2.2.2.1 = 0 then gTe T n E q v bt else gTl T n E q v bt) k = some y) : (∃ yf, NmQF T n (tbE u E) (r0U u E) q v yf ∧ y = Sum.inl yf) ∨ (NmG T n (tbE u E) (r0U u E) q v ∧ ∃ E' vg' b', tbE u E' = tbE u E ++ [(tkS T n q, 0, u, v, false)] ∧ DE E' u vg' nc (v + 1) ∧ (DxR u E E' ∧ (¬ u = 0 → vg' = vg)) ∧ bt.1 ≤ b'.1 ∧ k (tkN T n q, E', v + 1, b') = some y) := by
  have d1 := de.1.1
  unfold r0U
  by_cases e : u = 0
  · subst e
    rw [if_pos d1] at h
    rw [if_pos rfl]
    rcases ge_any de ok h with z | ⟨z1, E', b', z2, z3, z4, z5⟩
    · exact Or.inl z
    · exact Or.inr ⟨z1, E', v + 1, b', z2, z3, ⟨z4, fun e => absurd rfl e⟩, z5⟩
  · rw [if_neg (by rw [d1]; exact e)] at h
    rw [if_neg e]
    rcases gl_any de e ok h with z | ⟨z1, E', b', z2, z3, z4, z5⟩
    · exact Or.inl z
    · exact Or.inr ⟨z1, E', vg, b', z2, z3, ⟨z4, fun _ => rfl⟩, z5⟩
theorem r0U_d (h : DxR u E E') : r0U u E' = r0U u E := by
  unfold r0U
  by_cases e : u = 0
  · rw [if_pos e, if_pos e]
  · rw [if_neg e, if_neg e, h.2.1 e]
theorem r0U_le : r0U u E ≤ (tbE u E).length := by
  rw [tbE_l]
  unfold r0U
  by_cases e : u = 0
  · rw [if_pos e]; omega
  · rw [if_neg e]; omega
theorem DE_l (de : DE E u vg nc v) : v < 60 → (tbE u E).length < 256 := by
  intro hv
  obtain ⟨⟨d1, d2, d2'⟩, ⟨d3, d4, d5, d6⟩, _⟩ := de
  rw [tbE_l]
  by_cases e : u = 0
  · rw [(d2 e).1]
    show E.1.length + 0 < 256
    omega
  · rw [d2' e]
    omega
/-- behind a row of variables -/
def VrS (T : Nat → Int32) (n : Nat) (b : Bool) (u al o mk N st : Nat) (lo : Option Nat) (qh : Int32) (E0 : En) (vg0 nc q0 v0 : Nat) (t : DV) (τ : CS) : Prop := ∃ vg', QS T n b u al (tbE u t.2.1) o t.1 t.2.2.1 mk 0 N τ ∧ ZF b u t.2.2.1 st lo qh τ ∧ DE t.2.1 u vg' nc t.2.2.1 ∧ (DxR u E0 t.2.1 ∧ (¬ u = 0 → vg' = vg0)) ∧ q0 < t.1 ∧ v0 < t.2.2.1
theorem tk_ok (h : LxQ T n q σ) : tkK T n q = 26 → okN (tkS T n q) := fun k => (h.2.2.2.2.2.2.2.2 k).2
theorem vr_nm {q0 v0 : Nat} (hu : u < 42) : ∀ (f : Nat) (E : En) (q v : Nat) (bt : BT) (x : Fl DV), GVr T n f E q v bt = some x → ∀ (vg a1 a2 : Nat) (L2 : LV) (y1 : Int32) (τ : CS), Zy T n b u al σ0 nc0 sz0 mk0 a1 a2 (tbE u E) o q v mk v st lo qh N [] τ → DE E u vg nc v → (DxR u E0 E ∧ (¬ u = 0 → vg = vg0)) → q0 ≤ q → v0 ≤ v → y1 = nI (r0U u E) → L2.1 1 = y1 → uN (L2.1 2) ≤ v → Tm (fun k => ox (f_X5_tellVariable k 0 (lI lZ 1 y1) τ) (fun r => f_X5_variables k 1 L2 r.2.1)) (ZPo b u nc0 sz0 mk0 x (fun t _ τ' => VrS T n b u al o mk N st lo qh E0 vg0 nc q0 v0 t τ') σ0 a1 a2)
  | 0, E, q, v, bt, x, hG => by cases hG
  | f + 1, E, q, v, bt, x, hG => by
    intro vg a1 a2 L2 y1 τ s0 de dx hq0 hv0 ey e1 e2
    rw [GVr] at hG
    have lx := s0.1.1.1
    have qn : q ≤ n := lx.2.2.2.1
    have tb1 := tkN_b T n q qn
    have d60 : v ≤ 60 := de.2.1.2.2.2
    rcases gv_any de (tk_ok lx) hG with ⟨yf, w1, w2⟩ | ⟨w1, E', vg', b', w2, w3, ⟨w4, w4'⟩, wb, w5⟩
    · exact zt_tv (C := False) s0 hu (DE_l de) (by omega) ey r0U_le (Or.inl ⟨yf, w1, w2⟩) (fun _ _ _ _ c _ _ => c.elim)
    have g1 := tb1.2.2.2 (by rw [w1.1]; decide)
    refine zt_tv (C := True) s0 hu (DE_l de) (by omega) ey r0U_le (Or.inr ⟨w1, trivial⟩) (fun τ1 ret1 n1 n2 _ s1 zk1 => ?_)
    rw [← w2] at s1
    show Tm (fun k => f_X5_variables k 1 L2 τ1) _
    have lx1 := s1.1.1.1
    have qn1 : tkN T n q ≤ n := lx1.2.2.2.1
    have tb2 := tkN_b T n (tkN T n q) qn1
    refine Tm_suc (fun k => by rw [f_X5_variables]) ?_
    refine Tm_no (by rw [u_ltn (by decide) (by omega)]; show ¬ 32768 < uN (L2.1 2); omega) ?_
    by_cases k12 : tkK T n (tkN T n q) = 12
    · rw [if_pos k12] at w5
      refine Tm_yes ((lx_k (kk := 12) s1.1.1 (by decide)).2 k12) ?_
      have g2 := tb2.2.2.2 (by rw [k12]; decide)
      rcases pT_any w5 with ⟨z1, z2⟩ | ⟨z1, z2⟩
      · exact zt_adv (C := False) s1 (Or.inl ⟨z1, z2⟩) (fun _ _ _ _ c _ _ => c.elim)
      · refine zt_adv (C := True) s1 (Or.inr ⟨z1, trivial⟩) (fun τ2 ret2 n3 n4 _ s2 xk2 => ?_)
        have l2 : uN ((lI L2 2 (L2.1 2 + 1)).1 2) ≤ v + 1 := by
          show uN (L2.1 2 + 1) ≤ v + 1
          rw [u_inc (by omega)]
          omega
        rw [e1]
        exact vr_nm hu f E' (tkN T n (tkN T n q)) (v + 1) b' x z2 vg' _ _ (lI L2 2 (L2.1 2 + 1)) y1 τ2 s2 w3 ⟨DxR_t dx.1 w4, fun e => (w4' e).trans (dx.2 e)⟩ (by omega) (by omega) (by rw [r0U_d w4]; exact ey) e1 l2
    · rw [if_neg k12] at w5
      refine Tm_no (fun z => k12 ((lx_k (kk := 12) s1.1.1 (by decide)).1 z)) ?_
      refine Tm_suc (fun k => by rw [f_X5_variables]) ?_
      rcases pW_any w5 with ⟨z1, z2⟩ | ⟨z1, z2⟩
      · exact zt_expect (kk := 13) (C := False) s1 (by decide) rfl (Or.inl ⟨z1, z2⟩) (fun _ _ _ _ c _ _ => c.elim)
      · refine zt_expect (kk := 13) (C := True) s1 (by decide) rfl (Or.inr ⟨z1, trivial⟩) (fun τ2 ret2 n3 n4 _ s2 xk2 => ?_)
        obtain rfl := Option.some.inj z2
        exact Tm_some (Zfin s2 ⟨vg', s2.1.1, s2.2.2, w3, ⟨DxR_t dx.1 w4, fun e => (w4' e).trans (dx.2 e)⟩, by show q0 < tkN T n (tkN T n q); omega, by show v0 < v + 1; omega⟩)
/-- var NAME { , NAME } ; -/
theorem c_vars {x : Fl DV} (hu : u < 42) (h : QS T n b u al (tbE u E) o q v mk 0 N τ) (zf : ZF b u v st lo qh τ) (de : DE E u vg nc v) (l1 : L.1 1 = nI (r0U u E)) (hG : pT T n q (fun q1 => GVr T n f E q1 v bt) = some x) : Tm (fun k => f_X5_variables k 0 L τ) (ZPo b u (tbE u E).length N mk x (fun t _ τ' => VrS T n b u al o mk N st lo qh E vg nc q v t τ') τ 0 0) := by
  have s0 := Zy_0 h zf
  have qn : q ≤ n := h.1.2.2.2.1
  have tb1 := tkN_b T n q qn
  refine Tm_suc (fun k => by rw [f_X5_variables]) ?_
  rcases pT_any hG with ⟨z1, z2⟩ | ⟨z1, z2⟩
  · exact zt_adv (C := False) s0 (Or.inl ⟨z1, z2⟩) (fun _ _ _ _ c _ _ => c.elim)
  · refine zt_adv (C := True) s0 (Or.inr ⟨z1, trivial⟩) (fun τ2 ret2 n3 n4 _ s2 xk2 => ?_)
    exact vr_nm hu f E _ v bt x z2 vg _ _ (lI L 2 0) (L.1 1) τ2 s2 de ⟨DxR_r u E, fun _ => rfl⟩ tb1.1 (Nat.le_refl _) l1 rfl (Nat.zero_le _)
end DYB
end JnS524
section JnS525
/-! The class: the frame among declarations; a unit is opened. -/
section DYC
variable {σ σ' σ0 σ2 τ τ' τ0 : CS} {L L2 : LV} {b : Bool} {T : Nat → Int32} {n q q' q0 u al o v mk mk' p sz sz' szB nc nc0 sz0 mk0 a1 a2 m kk f w st w' st' r0 c vg vg' vg0 N N0 : Nat} {y qh : Int32} {l l' cs cs' : List Int32} {tb tb' es : List Ent} {E E' E0 E1 : En} {bt : BT} {lo : Option Nat} {α β : Type} {S : α → Int32 → CS → Prop} {x : Fl α} {C : Prop} {bs : List Int32}
/-- rows of a program's names and units -/
abbrev pRw (b : Bool) (k : Nat) : Prop := (k = pR7 b ∨ k = pR8 b ∨ k = pR9 b ∨ k = pR10 b ∨ k = pR13 b) ∨ (k = pR14 b ∨ k = pR15 b ∨ k = pR16 b ∨ k = pR17 b ∨ k = pR18 b)
/-- what the reading of a program leaves -/
def DK (b : Bool) (sz : Nat) (σ σ' : CS) : Prop := ((∀ j, ¬ (j = 404 ∨ (3702 ≤ j ∧ j ≤ 3704) ∨ (4003 ≤ j ∧ j ≤ 4020) ∨ (fP b 1 ≤ j ∧ j ≤ fP b 19)) → σ'.1 j = σ.1 j) ∧ (∀ j, ¬ (j = 3705 ∨ j = 3706) → σ'.2.1 j = σ.2.1 j)) ∧ ((∀ k, ¬ ((5 ≤ k ∧ k ≤ 11) ∨ (41 ≤ k ∧ k ≤ 43) ∨ k = 51 ∨ pRw b k) → σ'.2.2.1 k = σ.2.2.1 k) ∧ (∀ k, ¬ ((41 ≤ k ∧ k ≤ 43) ∨ k = 51) → sN σ' k = sN σ k) ∧ (∀ k, ¬ (k = pR5 b ∨ k = pR6 b) → σ'.2.2.2.1 k = σ.2.2.2.1 k)) ∧ ((sCur σ' = sCur σ ∧ sOt σ' = sOt σ ∧ sPr σ' = sPr σ ∧ sPp σ' = sPp σ) ∧ (∀ c, ¬ c = b → sKd σ' c = sKd σ c) ∧ σ'.2.2.2.2.2.2 = σ.2.2.2.2.2.2) ∧ (∀ i, i < sz → cdr b σ' i = cdr b σ i ∧ cdr (!b) σ' i = cdr (!b) σ i) ∧ (sz ≤ cdn b σ' ∧ (cdn b σ' = 36864 ∨ (sN σ' 43 = 1024 ∧ sN σ' 51 = 1024))) ∧ sN σ' 41 ≤ 21504 ∧ (sN σ' 42 = sN σ 42 ∨ sN σ' 42 = 16384) ∧ (σ'.2.2.1 (pR18 b) 41 = σ.2.2.1 (pR18 b) 41 ∧ σ'.2.2.1 (pR14 b) 41 = σ.2.2.1 (pR14 b) 41)
theorem DK_t (a : DK b sz σ σ') (d : DK b sz' σ' σ2) (h2 : sz ≤ sz') : DK b sz σ σ2 := by
  obtain ⟨⟨a1, a2⟩, ⟨a3, a4, a5⟩, ⟨⟨a6, a7, a8, a9⟩, a10, a11⟩, a12, a13, a14, a15, a16⟩ := a
  obtain ⟨⟨d1, d2⟩, ⟨d3, d4, d5⟩, ⟨⟨d6, d7, d8, d9⟩, d10, d11⟩, d12, d13, d14, d15, d16⟩ := d
  exact ⟨⟨fun j hj => (d1 j hj).trans (a1 j hj), fun j hj => (d2 j hj).trans (a2 j hj)⟩, ⟨fun k hk => (d3 k hk).trans (a3 k hk), fun k hk => (d4 k hk).trans (a4 k hk), fun k hk => (d5 k hk).trans (a5 k hk)⟩, ⟨⟨d6.trans a6, d7.trans a7, d8.trans a8, d9.trans a9⟩, fun c hc => (d10 c hc).trans (a10 c hc), d11.trans a11⟩, fun i hi => ⟨(d12 i (by omega)).1.trans (a12 i hi).1, (d12 i (by omega)).2.trans (a12 i hi).2⟩, ⟨by omega, d13.2⟩, d14, by omega, d16.1.trans a16.1, d16.2.trans a16.2⟩
theorem fP_19 (b : Bool) : fP b 1 ≤ fP b 3 ∧ fP b 3 ≤ fP b 19 ∧ fP b 1 ≤ fP b 11 ∧ fP b 11 ≤ fP b 19 ∧ fP b 1 ≤ fP b 12 ∧ fP b 12 ≤ fP b 19 ∧ fP b 1 ≤ fP b 2 ∧ fP b 2 ≤ fP b 19 ∧ fP b 1 ≤ fP b 4 ∧ fP b 4 ≤ fP b 19 ∧ ((5001 ≤ fP b 1 ∧ fP b 19 ≤ 5019) ∨ (6801 ≤ fP b 1 ∧ fP b 19 ≤ 6819)) := by cases b <;> decide
theorem DK_Z (h : ZK b u nc sz mk σ σ') (hu : ¬ u = 41 := by omega) : DK b sz σ σ' := by
  obtain ⟨⟨d1, d2⟩, ⟨d3, d4, d5⟩, d6, d12, d13, d14, d15, d16, d17, d18⟩ := h
  have f := fP_19 b
  refine ⟨⟨fun j hj => d1 j (fun z => hj ?_), d2⟩, ⟨fun k hk => d3 k (fun z => hk ?_), d4, d5⟩, d6, d14, d16, d17.2, d18, (d12 41 (fun z => hu z.symm)).2, congrFun (d3 (pR14 b) (by cases b <;> decide)) 41⟩
  · obtain ⟨f1, f2, f3, f4, _⟩ := f
    clear d1 d2 d3 d4 d5 d6 d12 d13 d14 d15 d16 d17 d18 hj
    rcases z with z | z | z | z | z | z | z
    · exact Or.inl z
    · exact Or.inr (Or.inl z)
    · exact Or.inr (Or.inr (Or.inl ⟨by omega, z.2⟩))
    · exact Or.inr (Or.inr (Or.inr ⟨by omega, by omega⟩))
    · exact Or.inr (Or.inr (Or.inr ⟨by omega, by omega⟩))
    · exact Or.inr (Or.inr (Or.inr ⟨by omega, by omega⟩))
    · exact Or.inr (Or.inr (Or.inr ⟨by omega, by omega⟩))
  · rcases z with z | z | z | z | z | z | z | z | z | z
    · exact Or.inl z
    · exact Or.inr (Or.inl z)
    · exact Or.inr (Or.inr (Or.inl z))
    · exact Or.inr (Or.inr (Or.inr (Or.inl (Or.inl z))))
    · exact Or.inr (Or.inr (Or.inr (Or.inl (Or.inr (Or.inl z)))))
    · exact Or.inr (Or.inr (Or.inr (Or.inl (Or.inr (Or.inr (Or.inl z))))))
    · exact Or.inr (Or.inr (Or.inr (Or.inl (Or.inr (Or.inr (Or.inr (Or.inl z)))))))
    · exact Or.inr (Or.inr (Or.inr (Or.inr (Or.inr (Or.inr (Or.inl z))))))
    · exact Or.inr (Or.inr (Or.inr (Or.inr (Or.inr (Or.inr (Or.inr (Or.inl z)))))))
    · exact Or.inr (Or.inr (Or.inr (Or.inr (Or.inr (Or.inr (Or.inr (Or.inr z)))))))
theorem DK_X (hx : XK b u nc sz mk σ σ') : DK b sz σ σ' := by
  have e18 := hx.2.1.1 (pR18 b) (by cases b <;> decide)
  have h := ZK_of hx
  obtain ⟨⟨d1, d2⟩, ⟨d3, d4, d5⟩, d6, d12, d13, d14, d15, d16, d17, d18⟩ := h
  have f := fP_19 b
  refine ⟨⟨fun j hj => d1 j (fun z => hj ?_), d2⟩, ⟨fun k hk => d3 k (fun z => hk ?_), d4, d5⟩, d6, d14, d16, d17.2, d18, congrFun e18 41, congrFun (d3 (pR14 b) (by cases b <;> decide)) 41⟩
  · obtain ⟨f1, f2, f3, f4, _⟩ := f
    clear d1 d2 d3 d4 d5 d6 d12 d13 d14 d15 d16 d17 d18 hj
    rcases z with z | z | z | z | z | z | z
    · exact Or.inl z
    · exact Or.inr (Or.inl z)
    · exact Or.inr (Or.inr (Or.inl ⟨by omega, z.2⟩))
    · exact Or.inr (Or.inr (Or.inr ⟨by omega, by omega⟩))
    · exact Or.inr (Or.inr (Or.inr ⟨by omega, by omega⟩))
    · exact Or.inr (Or.inr (Or.inr ⟨by omega, by omega⟩))
    · exact Or.inr (Or.inr (Or.inr ⟨by omega, by omega⟩))
  · rcases z with z | z | z | z | z | z | z | z | z | z
    · exact Or.inl z
    · exact Or.inr (Or.inl z)
    · exact Or.inr (Or.inr (Or.inl z))
    · exact Or.inr (Or.inr (Or.inr (Or.inl (Or.inl z))))
    · exact Or.inr (Or.inr (Or.inr (Or.inl (Or.inr (Or.inl z)))))
    · exact Or.inr (Or.inr (Or.inr (Or.inl (Or.inr (Or.inr (Or.inl z))))))
    · exact Or.inr (Or.inr (Or.inr (Or.inl (Or.inr (Or.inr (Or.inr (Or.inl z)))))))
    · exact Or.inr (Or.inr (Or.inr (Or.inr (Or.inr (Or.inr (Or.inl z))))))
    · exact Or.inr (Or.inr (Or.inr (Or.inr (Or.inr (Or.inr (Or.inr (Or.inl z)))))))
    · exact Or.inr (Or.inr (Or.inr (Or.inr (Or.inr (Or.inr (Or.inr (Or.inr z)))))))
theorem DK_r (h1 : sz ≤ cdn b σ ∧ (cdn b σ = 36864 ∨ (sN σ 43 = 1024 ∧ sN σ 51 = 1024))) (h2 : sN σ 41 ≤ 21504) : DK b sz σ σ := ⟨⟨fun _ _ => rfl, fun _ _ => rfl⟩, ⟨fun _ _ => rfl, fun _ _ => rfl, fun _ _ => rfl⟩, ⟨⟨rfl, rfl, rfl, rfl⟩, fun _ _ => rfl, rfl⟩, fun _ _ => ⟨rfl, rfl⟩, h1, h2, Or.inl rfl, rfl, rfl⟩
theorem DK_q (h : QS T n b u al tb o q v mk p sz σ) : DK b sz σ σ := DK_r h.2.1.2 h.2.2.1.2.2
/-- what a method leaves, among declarations -/
def DPo (b : Bool) (sz0 : Nat) {α : Type} (x : Fl α) (S : α → Int32 → CS → Prop) (σ0 : CS) (a1 a2 : Nat) (r : RS) : Prop := (∀ t, x = Sum.inr t → r.1.1 = 0 ∧ S t r.1.2 r.2.1) ∧ (∀ y, x = Sum.inl y → r.1.1 = 1 ∧ FltC y r.2.1) ∧ (r.1.1 = 0 → a1 + r.2.2.1 + PhC r.2.1 ≤ PhC σ0 ∧ a2 + r.2.2.2 + PhS r.2.1 ≤ PhS σ0) ∧ (¬ r.1.1 = 0 → a1 + r.2.2.1 + PhC r.2.1 ≤ PhC σ0 + 1 ∧ a2 + r.2.2.2 + PhS r.2.1 ≤ PhS σ0 + 6) ∧ DK b sz0 σ0 r.2.1
theorem DPo_s {n1 n2 : Nat} {r : RS} (h : DPo b sz0 x S σ0 (a1 + n1) (a2 + n2) r) : DPo b sz0 x S σ0 a1 a2 (r.1, r.2.1, (n1 + r.2.2.1, n2 + r.2.2.2)) := by
  obtain ⟨h1, h2, h3, h4, h5⟩ := h
  refine ⟨h1, h2, fun z => ?_, fun z => ?_, h5⟩
  · have y := h3 z
    show a1 + (n1 + r.2.2.1) + PhC r.2.1 ≤ PhC σ0 ∧ a2 + (n2 + r.2.2.2) + PhS r.2.1 ≤ PhS σ0
    omega
  · have y := h4 z
    show a1 + (n1 + r.2.2.1) + PhC r.2.1 ≤ PhC σ0 + 1 ∧ a2 + (n2 + r.2.2.2) + PhS r.2.1 ≤ PhS σ0 + 6
    omega
/-- within a method that began at σ0 -/
def Dy (b : Bool) (σ0 : CS) (sz0 a1 a2 : Nat) (τ : CS) : Prop := DK b sz0 σ0 τ ∧ a1 + PhC τ ≤ PhC σ0 ∧ a2 + PhS τ ≤ PhS σ0
theorem Dy_0 (h : QS T n b u al tb o q v mk p sz σ) : Dy b σ sz 0 0 σ := ⟨DK_q h, by omega, by omega⟩
theorem Dfin {t : α} (h : Dy b σ0 sz0 a1 a2 τ) (hs : S t y τ) : DPo b sz0 (Sum.inr t) S σ0 a1 a2 ((0, y), τ, (0, 0)) := ⟨fun t' e => by cases e; exact ⟨rfl, hs⟩, fun y e => (by cases e), fun _ => ⟨by have := h.2.1; show a1 + 0 + PhC τ ≤ _; omega, by have := h.2.2; show a2 + 0 + PhS τ ≤ _; omega⟩, fun z => absurd rfl z, h.1⟩
/-- a call within, of the frame among declarations -/
theorem dt_callD {z : Fl β} {R : β → Int32 → CS → Prop} {g : Nat → Option RS} {f : Nat → RS → Option RS} (h : Dy b σ0 sz0 a1 a2 τ) (hs : sz0 ≤ sz) (t : Tm g (DPo b sz z R τ 0 0)) (hx : (∃ ye, z = Sum.inl ye ∧ x = Sum.inl ye) ∨ ∃ s, z = Sum.inr s ∧ ∀ (τ' : CS) (ret : Int32) (n1 n2 : Nat), R s ret τ' → DK b sz τ τ' → Dy b σ0 sz0 (a1 + n1) (a2 + n2) τ' → Tm (fun k => f k ((0, ret), τ', (n1, n2))) (DPo b sz0 x S σ0 (a1 + n1) (a2 + n2))) : Tm (fun k => ox (g k) (f k)) (DPo b sz0 x S σ0 a1 a2) := by
  obtain ⟨h1, h2, h3⟩ := h
  refine Tm_ox t (fun r w nz => ?_) (fun r w e0 => ?_)
  · rcases hx with ⟨y0, e1, e2⟩ | ⟨s, e1, _⟩
    · rw [e2]
      refine ⟨fun t' e => (by cases e), fun y1 ye => by cases ye; exact w.2.1 y0 e1, fun z => absurd z nz, fun z => ?_, DK_t h1 w.2.2.2.2 hs⟩
      have y := w.2.2.2.1 z
      omega
    · exact absurd (w.1 s e1).1 nz
  · rcases hx with ⟨y0, e1, e2⟩ | ⟨s, e1, cont⟩
    · exact absurd (w.2.1 y0 e1).1 (by rw [e0]; decide)
    · have y := w.2.2.1 e0
      have k := cont r.2.1 r.1.2 r.2.2.1 r.2.2.2 (w.1 s e1).2 w.2.2.2.2 ⟨DK_t h1 w.2.2.2.2 hs, by omega, by omega⟩
      have er : ((0, r.1.2), r.2.1, (r.2.2.1, r.2.2.2)) = r := by
        rw [← e0]
      rw [er] at k
      exact Tm_mono k (fun q z => DPo_s z)
theorem DPo_Z {r : RS} (h : ZPo b u nc sz mk x S σ0 a1 a2 r) (hu : ¬ u = 41 := by omega) : DPo b sz x S σ0 a1 a2 r := ⟨h.1, h.2.1, h.2.2.1, h.2.2.2.1, DK_Z h.2.2.2.2 hu⟩
theorem dt_callZ {z : Fl β} {R : β → Int32 → CS → Prop} {g : Nat → Option RS} {f : Nat → RS → Option RS} (h : Dy b σ0 sz0 a1 a2 τ) (hs : sz0 ≤ sz) (t : Tm g (ZPo b u nc sz mk z R τ 0 0)) (hx : (∃ ye, z = Sum.inl ye ∧ x = Sum.inl ye) ∨ ∃ s, z = Sum.inr s ∧ ∀ (τ' : CS) (ret : Int32) (n1 n2 : Nat), R s ret τ' → ZK b u nc sz mk τ τ' → Dy b σ0 sz0 (a1 + n1) (a2 + n2) τ' → Tm (fun k => f k ((0, ret), τ', (n1, n2))) (DPo b sz0 x S σ0 (a1 + n1) (a2 + n2))) (hu : ¬ u = 41 := by omega) : Tm (fun k => ox (g k) (f k)) (DPo b sz0 x S σ0 a1 a2) := by
  obtain ⟨h1, h2, h3⟩ := h
  refine Tm_ox t (fun r w nz => ?_) (fun r w e0 => ?_)
  · rcases hx with ⟨y0, e1, e2⟩ | ⟨s, e1, _⟩
    · rw [e2]
      refine ⟨fun t' e => (by cases e), fun y1 ye => by cases ye; exact w.2.1 y0 e1, fun z => absurd z nz, fun z => ?_, DK_t h1 (DK_Z w.2.2.2.2 hu) hs⟩
      have y := w.2.2.2.1 z
      omega
    · exact absurd (w.1 s e1).1 nz
  · rcases hx with ⟨y0, e1, e2⟩ | ⟨s, e1, cont⟩
    · exact absurd (w.2.1 y0 e1).1 (by rw [e0]; decide)
    · have y := w.2.2.1 e0
      have k := cont r.2.1 r.1.2 r.2.2.1 r.2.2.2 (w.1 s e1).2 w.2.2.2.2 ⟨DK_t h1 (DK_Z w.2.2.2.2 hu) hs, by omega, by omega⟩
      have er : ((0, r.1.2), r.2.1, (r.2.2.1, r.2.2.2)) = r := by
        rw [← e0]
      rw [er] at k
      exact Tm_mono k (fun q z => DPo_s z)
theorem dt_callQ {z : Fl β} {R : β → Int32 → CS → Prop} {g : Nat → Option RS} {f : Nat → RS → Option RS} (h : Dy b σ0 sz0 a1 a2 τ) (hs : sz0 ≤ sz) (t : Tm g (QPo b u nc sz mk z R τ 0 0)) (hx : (∃ ye, z = Sum.inl ye ∧ x = Sum.inl ye) ∨ ∃ s, z = Sum.inr s ∧ ∀ (τ' : CS) (ret : Int32) (n1 n2 : Nat), R s ret τ' → XK b u nc sz mk τ τ' → Dy b σ0 sz0 (a1 + n1) (a2 + n2) τ' → Tm (fun k => f k ((0, ret), τ', (n1, n2))) (DPo b sz0 x S σ0 (a1 + n1) (a2 + n2))) : Tm (fun k => ox (g k) (f k)) (DPo b sz0 x S σ0 a1 a2) := by
  obtain ⟨h1, h2, h3⟩ := h
  refine Tm_ox t (fun r w nz => ?_) (fun r w e0 => ?_)
  · rcases hx with ⟨y0, e1, e2⟩ | ⟨s, e1, _⟩
    · rw [e2]
      refine ⟨fun t' e => (by cases e), fun y1 ye => by cases ye; exact w.2.1 y0 e1, fun z => absurd z nz, fun z => ?_, DK_t h1 (DK_X w.2.2.2.2) hs⟩
      have y := w.2.2.2.1 z
      omega
    · exact absurd (w.1 s e1).1 nz
  · rcases hx with ⟨y0, e1, e2⟩ | ⟨s, e1, cont⟩
    · exact absurd (w.2.1 y0 e1).1 (by rw [e0]; decide)
    · have y := w.2.2.1 e0
      have k := cont r.2.1 r.1.2 r.2.2.1 r.2.2.2 (w.1 s e1).2 w.2.2.2.2 ⟨DK_t h1 (DK_X w.2.2.2.2) hs, by omega, by omega⟩
      have er : ((0, r.1.2), r.2.1, (r.2.2.1, r.2.2.2)) = r := by
        rw [← e0]
      rw [er] at k
      exact Tm_mono k (fun q z => DPo_s z)
theorem dt_ref {cd pl : Nat} {f : Nat → RS → Option RS} (h : QS T n b u al tb o q v mk p sz τ) (hd : Dy b σ0 sz0 a1 a2 τ) (hs : sz0 ≤ sz) (c1 : L.1 1 = nI cd) (c2 : L.1 2 = nI pl) (hc : 1 ≤ cd ∧ cd ≤ 8) : Tm (fun k => ox (f_X5_refuse k 0 L τ) (f k)) (DPo b sz0 (Sum.inl (cd, pl) : Fl α) S σ0 a1 a2) := by
  have t2 : Tm (fun k => f_X5_refuse k 0 L τ) (QPo b u tb.length sz mk (Sum.inl (cd, pl) : Fl Unit) (fun _ _ _ => True) τ 0 0) := by
    refine Tm_suc (fun k => by rw [f_X5_refuse]) ?_
    have s := Sx_0 h
    refine Tm_some ?_
    have ph := Ph_s (σ := τ) (σ' := uI (uI τ 4006 (L.1 1)) 4007 (L.1 2)) rfl
    have fc := fP_c b 19
    have e5 := h.2.2.2.2.2.1
    have e11 := h.2.2.1.1
    have q1 := XK_f (σ' := uI (uI τ 4006 (L.1 1)) 4007 (L.1 2)) (mk' := mk) h (fun j hj => by rw [uI_o (by omega), uI_o (by omega)]) rfl (Nat.le_refl _)
    have fl : FltC (cd, pl) (uI (uI τ 4006 (L.1 1)) 4007 (L.1 2)) := Or.inl ⟨by rw [uI_o (by decide), uI_s]; exact c1, by rw [uI_s]; exact c2, hc⟩
    exact ⟨fun t' e => (by cases e), fun y e => by cases e; exact ⟨rfl, fl⟩, fun z => absurd (show (1 : Nat) = 0 from z) (by decide), fun _ => ⟨by show 0 + 1 + PhC (uI (uI τ 4006 (L.1 1)) 4007 (L.1 2)) ≤ _; omega, by show 0 + 6 + PhS (uI (uI τ 4006 (L.1 1)) 4007 (L.1 2)) ≤ _; omega⟩, q1⟩
  exact dt_callQ hd hs t2 (Or.inl ⟨_, rfl, rfl⟩)
/-- the rows of a unit are set -/
def opU (b : Bool) (u : Nat) (x : Int32) (σ : CS) : CS := uI (uA (uA (uA (uA (uA (uA σ (pR13 b) u x) (pR14 b) u 0) (pR15 b) u 0) (pR16 b) u 0) (pR17 b) u 0) (pR18 b) u 0) (fP b 19) 0
theorem c_openUnit (hu : u < 42) (hb : L.2.2.1 0 = b) (h1 : L.1 1 = nI u) : Tm (fun k => y_X7_openUnit__P k 0 L σ) (fun r => r.2 = opU b u (σ.1 (fP b 1)) σ) := by
  have i42 : ¬ (nI u < 0 ∨ 42 ≤ (nI u).toNatClampNeg) := u_in (by rw [u_n (by omega)]; omega) (by decide)
  refine Tm_suc (fun k => by rw [y_X7_openUnit__P]) ?_
  rw [hb, h1]
  refine Tm_chk i42 (Tm_chk i42 (Tm_chk i42 ?_))
  rw [n_cl (p := u) (by omega)]
  refine Tm_suc (fun k => by rw [y_X7_openUnit__P]) ?_
  rw [hb, h1]
  refine Tm_chk i42 (Tm_chk i42 (Tm_chk i42 ?_))
  rw [n_cl (p := u) (by omega)]
  refine Tm_suc (fun k => by rw [y_X7_openUnit__P]) ?_
  rw [hb]
  exact Tm_some rfl
end DYC
end JnS525
section JnS526
/-! The class: the head of a func or proc. -/
section DYD
variable {σ σ' σ0 σ2 τ τ' τ0 : CS} {L L2 : LV} {b pr : Bool} {T : Nat → Int32} {n q q' q0 u al o v mk mk' p sz sz' szB nc nc0 sz0 mk0 a1 a2 m kk f w st w' st' r0 c vg vg' vg0 N N0 kd : Nat} {y qh x : Int32} {l l' cs cs' : List Int32} {tb tb' es : List Ent} {E E' E0 E1 : En} {bt : BT} {lo : Option Nat} {bs : List Int32}
theorem opU_f {j : Nat} (h : ¬ j = fP b 19) : (opU b u x σ).1 j = σ.1 j := by
  unfold opU
  rw [uI_o h]
  rfl
theorem opU_19 : (opU b u x σ).1 (fP b 19) = 0 := uI_s
theorem pR_ne (b : Bool) : (¬ pR13 b = pR14 b ∧ ¬ pR13 b = pR15 b ∧ ¬ pR13 b = pR16 b ∧ ¬ pR13 b = pR17 b ∧ ¬ pR13 b = pR18 b ∧ ¬ pR14 b = pR15 b ∧ ¬ pR14 b = pR16 b ∧ ¬ pR14 b = pR17 b ∧ ¬ pR14 b = pR18 b) ∧ (¬ pR15 b = pR16 b ∧ ¬ pR15 b = pR17 b ∧ ¬ pR15 b = pR18 b ∧ ¬ pR16 b = pR17 b ∧ ¬ pR16 b = pR18 b ∧ ¬ pR17 b = pR18 b) := by cases b <;> decide
theorem opU_k {k : Nat} (h : ¬ (k = pR13 b ∨ k = pR14 b ∨ k = pR15 b ∨ k = pR16 b ∨ k = pR17 b ∨ k = pR18 b)) : (opU b u x σ).2.2.1 k = σ.2.2.1 k := by
  show (uA (uA (uA (uA (uA (uA σ (pR13 b) u x) (pR14 b) u 0) (pR15 b) u 0) (pR16 b) u 0) (pR17 b) u 0) (pR18 b) u 0).2.2.1 k = _
  rw [uA_k (by omega), uA_k (by omega), uA_k (by omega), uA_k (by omega), uA_k (by omega), uA_k (by omega)]
theorem opU_13 : (opU b u x σ).2.2.1 (pR13 b) = upd (σ.2.2.1 (pR13 b)) u x := by
  have p := pR_ne b
  show (uA (uA (uA (uA (uA (uA σ (pR13 b) u x) (pR14 b) u 0) (pR15 b) u 0) (pR16 b) u 0) (pR17 b) u 0) (pR18 b) u 0).2.2.1 _ = _
  rw [uA_k (by omega), uA_k (by omega), uA_k (by omega), uA_k (by omega), uA_k (by omega), uA_r]
theorem opU_14 : (opU b u x σ).2.2.1 (pR14 b) = upd (σ.2.2.1 (pR14 b)) u 0 := by
  have p := pR_ne b
  show (uA (uA (uA (uA (uA (uA σ (pR13 b) u x) (pR14 b) u 0) (pR15 b) u 0) (pR16 b) u 0) (pR17 b) u 0) (pR18 b) u 0).2.2.1 _ = _
  rw [uA_k (by omega), uA_k (by omega), uA_k (by omega), uA_k (by omega), uA_r, uA_k (by omega)]
theorem opU_15 : (opU b u x σ).2.2.1 (pR15 b) = upd (σ.2.2.1 (pR15 b)) u 0 := by
  have p := pR_ne b
  show (uA (uA (uA (uA (uA (uA σ (pR13 b) u x) (pR14 b) u 0) (pR15 b) u 0) (pR16 b) u 0) (pR17 b) u 0) (pR18 b) u 0).2.2.1 _ = _
  rw [uA_k (by omega), uA_k (by omega), uA_k (by omega), uA_r, uA_k (by omega), uA_k (by omega)]
theorem opU_16 : (opU b u x σ).2.2.1 (pR16 b) = upd (σ.2.2.1 (pR16 b)) u 0 := by
  have p := pR_ne b
  show (uA (uA (uA (uA (uA (uA σ (pR13 b) u x) (pR14 b) u 0) (pR15 b) u 0) (pR16 b) u 0) (pR17 b) u 0) (pR18 b) u 0).2.2.1 _ = _
  rw [uA_k (by omega), uA_k (by omega), uA_r, uA_k (by omega), uA_k (by omega), uA_k (by omega)]
theorem opU_18 : (opU b u x σ).2.2.1 (pR18 b) = upd (σ.2.2.1 (pR18 b)) u 0 := by
  have p := pR_ne b
  show (uA (uA (uA (uA (uA (uA σ (pR13 b) u x) (pR14 b) u 0) (pR15 b) u 0) (pR16 b) u 0) (pR17 b) u 0) (pR18 b) u 0).2.2.1 _ = _
  rw [uA_r, uA_k (by omega), uA_k (by omega), uA_k (by omega), uA_k (by omega), uA_k (by omega)]
theorem opU_2 : (opU b u x σ).2.1 = σ.2.1 ∧ (opU b u x σ).2.2.2 = σ.2.2.2 := ⟨rfl, rfl⟩
theorem fP_ns (b : Bool) : (¬ fP b 1 = fP b 12 ∧ ¬ fP b 1 = fP b 19 ∧ ¬ fP b 3 = fP b 12 ∧ ¬ fP b 3 = fP b 19 ∧ ¬ fP b 11 = fP b 12 ∧ ¬ fP b 11 = fP b 19 ∧ ¬ fP b 12 = fP b 19 ∧ ¬ fP b 4 = fP b 12 ∧ ¬ fP b 2 = fP b 12 ∧ ¬ fP b 2 = fP b 19) ∧ (¬ fP b 1 = fP b 4 ∧ ¬ fP b 3 = fP b 4 ∧ ¬ fP b 11 = fP b 4 ∧ ¬ fP b 12 = fP b 4 ∧ ¬ fP b 19 = fP b 4 ∧ ¬ fP b 2 = fP b 1 ∧ ¬ fP b 2 = fP b 3 ∧ ¬ fP b 2 = fP b 11 ∧ ¬ fP b 1 = fP b 3 ∧ ¬ fP b 1 = fP b 11) := by cases b <;> decide
theorem pR_13 (b : Bool) : (pR13 b = 69 ∧ pR14 b = 70 ∧ pR15 b = 71 ∧ pR16 b = 72 ∧ pR17 b = 73 ∧ pR18 b = 74 ∧ pR5 b = 44 ∧ pR6 b = 45 ∧ pR7 b = 46 ∧ pR8 b = 47 ∧ pR9 b = 48 ∧ pR10 b = 49) ∨ (pR13 b = 58 ∧ pR14 b = 59 ∧ pR15 b = 60 ∧ pR16 b = 61 ∧ pR17 b = 62 ∧ pR18 b = 63 ∧ pR5 b = 52 ∧ pR6 b = 53 ∧ pR7 b = 54 ∧ pR8 b = 55 ∧ pR9 b = 56 ∧ pR10 b = 57) := by cases b <;> decide
/-- a state that differs from another in the fields of a list and in rows of the program's units -/
theorem QS_ww {v' u' al' p' : Nat} (h : QS T n b u al tb o q v mk p N σ) (f1 : ∀ j, ¬ (j = 4003 ∨ j = 4004 ∨ j = fP b 2 ∨ j = fP b 4 ∨ j = fP b 12 ∨ j = fP b 19) → σ'.1 j = σ.1 j) (f2 : σ'.2.1 = σ.2.1) (f3 : ∀ k, ¬ (k = pR13 b ∨ k = pR14 b ∨ k = pR15 b ∨ k = pR16 b ∨ k = pR17 b ∨ k = pR18 b) → σ'.2.2.1 k = σ.2.2.1 k) (f4 : σ'.2.2.2 = σ.2.2.2) (e3 : σ'.1 4003 = nI u') (e4 : σ'.1 4004 = nI al') (e16 : σ'.2.2.1 (pR16 b) u' = nI v') (hv : v' ≤ 60) (e19 : σ'.1 (fP b 19) = nI p') (e41 : (σ'.2.2.1 (pR18 b) 41 = σ.2.2.1 (pR18 b) 41 ∧ σ'.2.2.1 (pR14 b) 41 = σ.2.2.1 (pR14 b) 41) := by exact ⟨rfl, rfl⟩) : QS T n b u' al' tb o q v' mk p' N σ' ∧ DK b N σ σ' := by
  obtain ⟨h1, h2, h3, h4, ⟨h5, h5', h5''⟩, ⟨h6, h6'⟩, ⟨h7, h7'⟩, h8⟩ := h
  have fn := fP_ns b
  have f9 := fP_19 b
  have pr := pR_13 b
  have eN : sN σ' = sN σ := by show σ'.2.2.2.2.1 = _; rw [f4]
  have eL : σ'.2.2.2.1 = σ.2.2.2.1 := by rw [f4]
  have eP : σ'.2.2.2.2.2.1 = σ.2.2.2.2.2.1 := by rw [f4]
  have eKd : sKd σ' = sKd σ := by show σ'.2.2.2.2.2.1.2.2.2.2 = _; rw [f4]
  have cd : ∀ c i, cdr c σ' i = cdr c σ i := fun c i => by
    show σ'.2.2.1 (pR0 (sKd σ' c)) i = _
    rw [eKd]
    rcases pR0_c (sKd σ c) with z | z
    · rw [f3 _ (by omega)]
    · rw [f3 _ (by omega)]
  refine ⟨⟨LxQ_s h1 (fun j h1 h2 => f1 j (by omega)) ⟨by rw [f2], by rw [f2]⟩ (f3 _ (by omega)) (by rw [eN]) (by rw [eL]), CdL_s h2 (f1 _ (by omega)) (by rw [eKd]) ⟨by rw [eN], by rw [eN]⟩, ⟨by rw [f1 _ (by omega)]; exact h3.1, by rw [eN]; exact h3.2⟩, TbR_s h4 (f1 _ (by omega)) (by rw [eL]) (by rw [eL]) (f3 _ (by omega)) (f3 _ (by omega)) (f3 _ (by omega)) (f3 _ (by omega)), ⟨by show σ'.2.2.2.2.2.1.2.2.2.1 = _; rw [f4]; exact h5, e3, e4, (f1 4006 (by omega)).trans h5''.2⟩, ⟨by rw [f1 _ (by omega)]; exact h6, h6'⟩, ⟨e16, hv⟩, e19⟩, ?_⟩
  refine ⟨⟨fun j hj => f1 j (by omega), fun j _ => by rw [f2]⟩, ⟨fun k hk => f3 k (fun z => hk (by unfold pRw; omega)), fun k _ => by rw [eN], fun k _ => by rw [eL]⟩, ⟨⟨?_, ?_, ?_, ?_⟩, fun c _ => by rw [eKd], by rw [f4]⟩, fun i _ => ⟨cd b i, cd (!b) i⟩, (CdL_s (σ' := σ') h2 (f1 _ (by omega)) (by rw [eKd]) ⟨by rw [eN], by rw [eN]⟩).2, by rw [eN]; exact h3.2.2, Or.inl (by rw [eN]), e41⟩
  · show σ'.2.2.2.2.2.1.1 = _; rw [f4]
  · show σ'.2.2.2.2.2.1.2.1 = _; rw [f4]
  · show σ'.2.2.2.2.2.1.2.2.1 = _; rw [f4]
  · show σ'.2.2.2.2.2.1.2.2.2.1 = _; rw [f4]
/-- rows of the other units stay -/
def UnK (b : Bool) (u : Nat) (τ τ' : CS) : Prop := ∀ i, ¬ i = u → (τ'.2.2.1 (pR13 b) i = τ.2.2.1 (pR13 b) i ∧ τ'.2.2.1 (pR14 b) i = τ.2.2.1 (pR14 b) i) ∧ (τ'.2.2.1 (pR15 b) i = τ.2.2.1 (pR15 b) i ∧ τ'.2.2.1 (pR16 b) i = τ.2.2.1 (pR16 b) i) ∧ τ'.2.2.1 (pR18 b) i = τ.2.2.1 (pR18 b) i
theorem UnK_t (a : UnK b u σ τ) (d : UnK b u τ τ') : UnK b u σ τ' := fun i hi => by
  obtain ⟨⟨a1, a2⟩, ⟨a3, a4⟩, a5⟩ := a i hi
  obtain ⟨⟨d1, d2⟩, ⟨d3, d4⟩, d5⟩ := d i hi
  exact ⟨⟨d1.trans a1, d2.trans a2⟩, ⟨d3.trans a3, d4.trans a4⟩, d5.trans a5⟩
theorem ZK_13 (h : ZK b u nc sz mk σ σ') : σ'.2.2.1 (pR13 b) = σ.2.2.1 (pR13 b) ∧ σ'.2.2.1 (pR14 b) = σ.2.2.1 (pR14 b) ∧ σ'.2.2.1 (pR15 b) = σ.2.2.1 (pR15 b) := by
  have pr := pR_13 b
  exact ⟨h.2.1.1 _ (by omega), h.2.1.1 _ (by omega), h.2.1.1 _ (by omega)⟩
theorem UnK_Z (h : ZK b u nc sz mk σ σ') : UnK b u σ σ' := fun i hi => by
  obtain ⟨e1, e2, e3⟩ := ZK_13 h
  have z := h.2.2.2.1 i hi
  exact ⟨⟨by rw [e1], by rw [e2]⟩, ⟨by rw [e3], z.1⟩, z.2⟩
theorem ZK_12 (h : ZK b u nc sz mk σ σ') : σ'.1 (fP b 12) = σ.1 (fP b 12) := by
  have fn := fP_ns b
  have f9 := fP_19 b
  exact h.1.1 _ (by omega)
/-- the head is as it should be -/
def TUC (T : Nat → Int32) (n : Nat) (E : En) (c q : Nat) : Prop := ¬ tkK T n (tkN T n q) = 0 ∧ nmC T n E c (tkN T n q) ∧ ¬ tkK T n (tkN T n (tkN T n q)) = 0 ∧ tkK T n (tkN T n (tkN T n q)) = 6 ∧ ¬ tkK T n (tkN T n (tkN T n (tkN T n q))) = 0
/-- the fault of a head -/
def tuF (T : Nat → Int32) (n : Nat) (E : En) (c q : Nat) : Nat × Nat := if tkK T n (tkN T n q) = 0 then (1, tkN T n q) else if ¬ nmC T n E c (tkN T n q) then caF T n E (tkN T n q) else if tkK T n (tkN T n (tkN T n q)) = 0 then (1, tkN T n (tkN T n q)) else if ¬ tkK T n (tkN T n (tkN T n q)) = 6 then (2, tkN T n (tkN T n q)) else (1, tkN T n (tkN T n (tkN T n q)))
theorem tuF_1 {c : Nat} (k1 : tkK T n (tkN T n q) = 0) : tuF T n E c q = (1, tkN T n q) := if_pos k1
theorem tuF_c {c : Nat} (k1 : ¬ tkK T n (tkN T n q) = 0) (hn : ¬ nmC T n E c (tkN T n q)) : tuF T n E c q = caF T n E (tkN T n q) := (if_neg k1).trans (if_pos hn)
theorem tuF_2 {c : Nat} (k1 : ¬ tkK T n (tkN T n q) = 0) (hn : nmC T n E c (tkN T n q)) (k2 : tkK T n (tkN T n (tkN T n q)) = 0) : tuF T n E c q = (1, tkN T n (tkN T n q)) := (if_neg k1).trans ((if_neg (fun z => z hn)).trans (if_pos k2))
theorem tuF_6 {c : Nat} (k1 : ¬ tkK T n (tkN T n q) = 0) (hn : nmC T n E c (tkN T n q)) (k2 : ¬ tkK T n (tkN T n (tkN T n q)) = 0) (k6 : ¬ tkK T n (tkN T n (tkN T n q)) = 6) : tuF T n E c q = (2, tkN T n (tkN T n q)) := (if_neg k1).trans ((if_neg (fun z => z hn)).trans ((if_neg k2).trans (if_pos k6)))
theorem tuF_3 {c : Nat} (k1 : ¬ tkK T n (tkN T n q) = 0) (hn : nmC T n E c (tkN T n q)) (k2 : ¬ tkK T n (tkN T n (tkN T n q)) = 0) (k6 : tkK T n (tkN T n (tkN T n q)) = 6) : tuF T n E c q = (1, tkN T n (tkN T n (tkN T n q))) := (if_neg k1).trans ((if_neg (fun z => z hn)).trans ((if_neg k2).trans (if_neg (fun z => z k6))))
/-- behind the ( of a func's or proc's head -/
def TUr (T : Nat → Int32) (n : Nat) (b : Bool) (nc mk N st : Nat) (qh : Int32) (E1 : En) (vg q3 : Nat) (y : Int32) (τ τ' : CS) : Prop := y = nI E1.1.length ∧ QS T n b (nc + 1) 2 (tbE (nc + 1) E1) 1 q3 0 mk 0 N τ' ∧ ZF b (nc + 1) 0 st none qh τ' ∧ DE E1 (nc + 1) vg (nc + 1) 0 ∧ τ'.1 (fP b 12) = nI (nc + 1) ∧ UnK b (nc + 1) τ τ' ∧ τ'.2.2.1 (pR13 b) (nc + 1) = nI N ∧ τ'.2.2.1 (pR14 b) (nc + 1) = 0 ∧ τ'.2.2.1 (pR15 b) (nc + 1) = 0
theorem c_tellUnit {z : Fl Unit} (h : QS T n b 0 2 (tbE 0 E) 0 q v mk 0 N τ) (zf : ZF b 0 v st none qh τ) (de : DE E 0 vg nc v) (nU : τ.1 (fP b 12) = nI nc) (hk : L.1 1 = nI (if pr = true then 2 else 1)) (hz : (¬ TUC T n E nc q ∧ z = Sum.inl (tuF T n E nc q)) ∨ (TUC T n E nc q ∧ z = Sum.inr ())) : Tm (fun k => f_X5_tellUnit k 0 L τ) (DPo b N z (fun _ y τ' => TUr T n b nc mk N st qh (eC1 T n pr E nc (tkN T n q) bt) vg (tkN T n (tkN T n (tkN T n q))) y τ τ') τ 0 0) := by
  have d0 := Dy_0 h
  obtain ⟨⟨d1, d2, d2'⟩, ⟨d3, d4, d5, d6⟩, d7, d8, d9⟩ := de
  obtain ⟨e21, evg⟩ := d2 rfl
  have hkd : ∀ x, x ∈ E.1 → ¬ x.2.2.1 = 0 := fun x hx => by have := (d8 x hx).2; omega
  have fn := fP_ns b
  have f9 := fP_19 b
  have p13 := pR_13 b
  have zn : ¬ TUC T n E nc q → z = Sum.inl (tuF T n E nc q) := fun c => by
    rcases hz with w | w
    · exact w.2
    · exact absurd w.1 c
  refine Tm_suc (fun k => by rw [f_X5_tellUnit]) ?_
  by_cases k1 : tkK T n (tkN T n q) = 0
  · rw [zn (fun c => c.1 k1), tuF_1 k1]
    exact dt_callQ (z := Sum.inl _) d0 (Nat.le_refl _) (c_advX h (Or.inl ⟨k1, rfl⟩)) (Or.inl ⟨_, rfl, rfl⟩)
  refine dt_callQ (z := Sum.inr (tkN T n q)) d0 (Nat.le_refl _) (c_advX h (Or.inr ⟨k1, rfl⟩)) (Or.inr ⟨_, rfl, fun τ1 ret1 n1 n2 h1 xk1 dy1 => ?_⟩)
  by_cases k26 : tkK T n (tkN T n q) = 26
  case neg =>
    rw [zn (fun c => k26 c.2.1.1), tuF_c k1 (fun c => k26 c.1), caF_2 k26]
    exact dt_callQ (z := Sum.inl _) dy1 (Nat.le_refl _) (c_wantQ (kk := 26) h1 (by decide) rfl (Or.inl ⟨k26, rfl⟩)) (Or.inl ⟨_, rfl, rfl⟩)
  refine dt_callQ (z := Sum.inr (tkN T n q)) dy1 (Nat.le_refl _) (c_wantQ (kk := 26) h1 (by decide) rfl (Or.inr ⟨k26, rfl⟩)) (Or.inr ⟨_, rfl, fun τ2 ret2 n3 n4 h2 xk2 dy2 => ?_⟩)
  obtain rfl := h2
  have okn := tk_ok h1.1 k26
  have ky := (h1.1.2.2.2.2.2.2.2.2 k26).1
  refine Tm_oP h1.2.2.2.2.1.1 ?_
  refine Tm_op (c_toldFrom (bs := tkS T n (tkN T n q)) (r0 := 0) h1.2.2.2.1 rfl okn ky.1 ky.2 rfl (Nat.zero_le _)) (fun r4 z4 => ?_)
  obtain ⟨er4, z4⟩ := z4
  rw [told_0 e21 hkd] at z4
  rw [er4]
  by_cases kf : (fd E (tkS T n (tkN T n q))).1 = 0
  case neg =>
    rw [zn (fun c => kf c.2.1.2.1), tuF_c k1 (fun c => kf c.2.1), caF_4 k26 kf]
    refine Tm_no (fun w => kf (z4.1 w)) ?_
    exact dt_ref h1 dy2 (Nat.le_refl _) rfl (lx_3 h1) (by decide)
  refine Tm_yes (z4.2 kf) ?_
  refine Tm_suc (fun k => by rw [f_X5_tellUnit]) ?_
  refine Tm_oP h1.2.2.2.2.1.1 ?_
  have nU1 : τ2.1 (fP b 12) = nI nc := (ZK_12 (ZK_of xk1)).trans nU
  rw [nU1]
  by_cases kc : nc = 40
  · rw [zn (fun c => c.2.1.2.2 kc), tuF_c k1 (fun c => c.2.2 kc), caF_8 k26 kf]
    refine Tm_no (by rw [kc]; decide) ?_
    exact dt_ref h1 dy2 (Nat.le_refl _) rfl (lx_3 h1) (by decide)
  refine Tm_yes (by rw [u_ltn (by rw [u_n (by omega)]; omega) (by decide), u_n (by omega)]; show nc < 40; omega) ?_
  refine Tm_suc (fun k => by rw [f_X5_tellUnit]) ?_
  have pp : sPp τ2 = some b := h1.2.2.2.2.1.1
  have ni1 : nI nc + 1 = nI (nc + 1) := n_add (q := 1) (by omega)
  refine Tm_oP pp (Tm_oP pp (Tm_oP pp ?_))
  have eA : uI (uI τ2 (fP b 12) (τ2.1 (fP b 12) + 1)) 4003 ((uI τ2 (fP b 12) (τ2.1 (fP b 12) + 1)).1 (fP b 12)) = uI (uI τ2 (fP b 12) (nI (nc + 1))) 4003 (nI (nc + 1)) := by rw [uI_s, nU1, ni1]
  rw [eA]
  have e1N : (uI (uI τ2 (fP b 12) (nI (nc + 1))) 4003 (nI (nc + 1))).1 (fP b 1) = nI N := by
    rw [uI_o (by omega), uI_o (by omega)]
    exact h1.2.1.1
  refine Tm_op (c_openUnit (u := nc + 1) (b := b) (by omega) rfl (show (uI (uI τ2 (fP b 12) (nI (nc + 1))) 4003 (nI (nc + 1))).1 4003 = nI (nc + 1) from uI_s)) (fun r5 z5 => ?_)
  rw [e1N] at z5
  generalize hτ3 : opU b (nc + 1) (nI N) (uI (uI τ2 (fP b 12) (nI (nc + 1))) 4003 (nI (nc + 1))) = τ3 at z5
  rw [z5]
  have g1 : ∀ j, ¬ (j = 4003 ∨ j = 4004 ∨ j = fP b 2 ∨ j = fP b 4 ∨ j = fP b 12 ∨ j = fP b 19) → τ3.1 j = τ2.1 j := fun j hj => by rw [← hτ3, opU_f (by omega), uI_o (by omega), uI_o (by omega)]
  have g2 : τ3.2.1 = τ2.2.1 := by rw [← hτ3]; rfl
  have g3 : ∀ k, ¬ (k = pR13 b ∨ k = pR14 b ∨ k = pR15 b ∨ k = pR16 b ∨ k = pR17 b ∨ k = pR18 b) → τ3.2.2.1 k = τ2.2.2.1 k := fun k hk => by rw [← hτ3, opU_k hk]; rfl
  have g4 : τ3.2.2.2 = τ2.2.2.2 := by rw [← hτ3]; rfl
  have g5 : τ3.1 4003 = nI (nc + 1) := by rw [← hτ3, opU_f (by omega), uI_s]
  have g6 : τ3.1 4004 = nI 2 := by rw [← hτ3, opU_f (by omega), uI_o (by decide), uI_o (by omega)]; exact h1.2.2.2.2.1.2.2.1
  have g7 : τ3.2.2.1 (pR16 b) (nc + 1) = nI 0 := by rw [← hτ3, opU_16, upd_same]; rfl
  have g8 : τ3.1 (fP b 19) = nI 0 := by rw [← hτ3, opU_19]; rfl
  have g9 : τ3.1 (fP b 12) = nI (nc + 1) := by rw [← hτ3, opU_f (by omega), uI_o (by omega), uI_s]
  obtain ⟨h3, dk3⟩ := QS_ww (u' := nc + 1) (al' := 2) (v' := 0) (p' := 0) h1 g1 g2 g3 g4 g5 g6 g7 (by omega) g8 ⟨by rw [← hτ3, opU_18, upd_other (by omega)]; rfl, by rw [← hτ3, opU_14, upd_other (by omega)]; rfl⟩
  have zf1 := ZF_k zf xk1
  have zf3 : ZF b (nc + 1) 0 st none qh τ3 := ⟨by rw [← hτ3, opU_18, upd_same]; rfl, ⟨by rw [g1 _ (by omega)]; exact zf1.2.1.1, zf1.2.1.2⟩, by rw [g1 _ (by omega)]; exact zf1.2.2.1, by rw [g1 _ (by omega)]; exact zf1.2.2.2.1, by rw [show sN τ3 = sN τ2 from by show τ3.2.2.2.2.1 = _; rw [g4]]; exact zf1.2.2.2.2⟩
  have ph3 := Ph_s (σ := τ2) (σ' := τ3) (by rw [g4])
  have dy3 : Dy b τ N (0 + n1 + n3) (0 + n2 + n4) τ3 := ⟨DK_t dy2.1 dk3 (Nat.le_refl _), by have := dy2.2.1; omega, by have := dy2.2.2; omega⟩
  have uk3 : UnK b (nc + 1) τ2 τ3 := fun i hi => by
    rw [← hτ3, opU_13, opU_14, opU_15, opU_16, opU_18, upd_other hi, upd_other hi, upd_other hi, upd_other hi, upd_other hi]
    exact ⟨⟨rfl, rfl⟩, ⟨rfl, rfl⟩, rfl⟩
  have xk12 := ZK_of xk1
  have uk2 : UnK b (nc + 1) τ τ2 := fun i hi => by
    obtain ⟨e1, e2, e3⟩ := ZK_13 xk12
    have pd := xk1.2.1.1 (pR18 b) (by omega)
    have hq1 := h1.2.2.2.2.2.2.1.1
    have hq0 := h.2.2.2.2.2.2.1.1
    refine ⟨⟨by rw [e1], by rw [e2]⟩, ⟨by rw [e3], ?_⟩, by rw [pd]⟩
    by_cases i0 : i = 0
    · rw [i0, hq0, hq1]
    · exact (xk12.2.2.2.1 i i0).1
  have s13 : τ3.2.2.1 (pR13 b) (nc + 1) = nI N := by rw [← hτ3, opU_13, upd_same]
  have s14 : τ3.2.2.1 (pR14 b) (nc + 1) = 0 := by rw [← hτ3, opU_14, upd_same]
  have s15 : τ3.2.2.1 (pR15 b) (nc + 1) = 0 := by rw [← hτ3, opU_15, upd_same]
  have pp3 : sPp τ3 = some b := h3.2.2.2.2.1.1
  have bl := tbE_l 0 E
  have bl0 : E.2.1.length = 0 := by rw [e21]; rfl
  refine Tm_oP pp3 ?_
  have ky3 : τ3.2.1 3705 = kyH (tkS T n (tkN T n q)) ∧ τ3.2.1 3706 = kyL (tkS T n (tkN T n q)) := by rw [g2]; exact ky
  refine Tm_op (c_tell (bs := tkS T n (tkN T n q)) (w0 := if pr = true then 2 else 1) (o0 := 0) (s0 := nc + 1) h3.2.2.2.1 (by omega) rfl okn ky3.1 ky3.2 hk rfl g5) (fun r6 z6 => ?_)
  obtain ⟨h4, xk4⟩ := QS_tb h3 z6
  have et : tbE 0 E ++ [(tkS T n (tkN T n q), (if pr = true then 2 else 1), 0, nc + 1, false)] = tbE (nc + 1) (eC1 T n pr E nc (tkN T n q) bt) := by
    show (E.1.map gEn ++ E.2.1.reverse.map (lEn 0)) ++ _ = (E.1 ++ [(tkS T n (tkN T n q), bt.2.1, (if pr = true then 3 else 2), nc)]).map gEn ++ []
    rw [e21, List.map_append]
    show (_ ++ []) ++ _ = (_ ++ _) ++ []
    rw [List.append_nil, List.append_nil]
    cases pr <;> rfl
  rw [et] at h4
  have ph4 := Ph_s (σ := τ3) (σ' := r6.2) (by rw [z6.2.2.2.2.1])
  have zk4 := ZK_of xk4
  have dy4 : Dy b τ N (0 + n1 + n3) (0 + n2 + n4) r6.2 := ⟨DK_t dy3.1 (DK_X xk4) (Nat.le_refl _), by have := dy3.2.1; omega, by have := dy3.2.2; omega⟩
  have zf4 := ZF_k zf3 xk4
  have uk4 := UnK_t (UnK_t uk2 uk3) (UnK_Z zk4)
  have e413 := ZK_13 zk4
  have de1 : DE (eC1 T n pr E nc (tkN T n q) bt) (nc + 1) vg (nc + 1) 0 := by
    have nn : ∀ x, x ∈ E.1 → ¬ x.1 = tkS T n (tkN T n q) := by
      rcases fd_cs E (tkS T n (tkN T n q)) with ⟨_, _, _, t⟩ | ⟨_, x, y1, _, _, y4, _⟩ | ⟨_, t, _⟩
      · omega
      · exact absurd (y4.symm.trans kf) (hkd x y1)
      · exact t
    refine ⟨⟨rfl, fun e => absurd e (by omega), fun _ => rfl⟩, ⟨?_, d4, by omega, by omega⟩, ?_, fun x hx => ?_, fun x hx => absurd hx List.not_mem_nil⟩
    · show (E.1 ++ [_]).length = _
      rw [List.length_append, d3]
      show vg + nc + 1 = _
      omega
    · show (E.1 ++ [_]).Pairwise _
      rw [List.pairwise_append]
      exact ⟨d7, List.pairwise_singleton _ _, fun a ha c hc => by rw [List.mem_singleton.1 hc]; exact nn a ha⟩
    · rcases List.mem_append.1 (show x ∈ E.1 ++ [(tkS T n (tkN T n q), bt.2.1, (if pr = true then 3 else 2), nc)] from hx) with t | t
      · exact ⟨(d8 x t).1, by have := (d8 x t).2; omega⟩
      · rw [List.mem_singleton.1 t]
        refine ⟨okn, Or.inr ⟨?_, by show nc < nc + 1; omega⟩⟩
        cases pr
        · exact Or.inl rfl
        · exact Or.inr rfl
  -- the next token, the (, what is behind it
  by_cases k2 : tkK T n (tkN T n (tkN T n q)) = 0
  · rw [zn (fun c => c.2.2.1 k2), tuF_2 k1 ⟨k26, kf, kc⟩ k2]
    exact dt_callQ (z := Sum.inl _) dy4 (Nat.le_refl _) (c_advX h4 (Or.inl ⟨k2, rfl⟩)) (Or.inl ⟨_, rfl, rfl⟩)
  refine dt_callQ (z := Sum.inr _) dy4 (Nat.le_refl _) (c_advX h4 (Or.inr ⟨k2, rfl⟩)) (Or.inr ⟨_, rfl, fun τ5 ret5 n5 n6 h5 xk5 dy5 => ?_⟩)
  by_cases k6 : tkK T n (tkN T n (tkN T n q)) = 6
  case neg =>
    rw [zn (fun c => k6 c.2.2.2.1), tuF_6 k1 ⟨k26, kf, kc⟩ k2 k6]
    exact dt_callQ (z := Sum.inl _) dy5 (Nat.le_refl _) (c_wantQ (kk := 6) h5 (by decide) rfl (Or.inl ⟨k6, rfl⟩)) (Or.inl ⟨_, rfl, rfl⟩)
  refine dt_callQ (z := Sum.inr _) dy5 (Nat.le_refl _) (c_wantQ (kk := 6) h5 (by decide) rfl (Or.inr ⟨k6, rfl⟩)) (Or.inr ⟨_, rfl, fun τ6 ret6 n7 n8 h6 xk6 dy6 => ?_⟩)
  obtain rfl := h6
  by_cases k3 : tkK T n (tkN T n (tkN T n (tkN T n q))) = 0
  · rw [zn (fun c => c.2.2.2.2 k3), tuF_3 k1 ⟨k26, kf, kc⟩ k2 k6]
    exact dt_callQ (z := Sum.inl _) dy6 (Nat.le_refl _) (c_opensQ h5 (Or.inl ⟨fun c => c.2 k3, rfl⟩)) (Or.inl ⟨_, rfl, rfl⟩)
  refine dt_callQ (z := Sum.inr _) dy6 (Nat.le_refl _) (c_opensQ h5 (Or.inr ⟨⟨by decide, k3⟩, rfl⟩)) (Or.inr ⟨_, rfl, fun τ7 ret7 n9 n10 h7 xk7 dy7 => ?_⟩)
  have tt : z = Sum.inr () := by
    rcases hz with w | w
    · exact absurd ⟨k1, ⟨k26, kf, kc⟩, k2, k6, k3⟩ w.1
    · exact w.2
  rw [tt]
  refine Tm_oP h7.2.2.2.2.1.1 (Tm_some (Dfin dy7 ?_))
  have zk5 := ZK_of xk5
  have zk7 := ZK_of xk7
  have e513 := ZK_13 zk5
  have e713 := ZK_13 zk7
  refine ⟨?_, h7, ZF_k (ZF_k zf4 xk5) xk7, de1, ?_, UnK_t (UnK_t uk4 (UnK_Z zk5)) (UnK_Z zk7), ?_, ?_, ?_⟩
  · show τ7.1 (fP b 11) = _
    rw [h7.2.2.2.1.1, tbE_l]
    rfl
  · rw [ZK_12 zk7, ZK_12 zk5, ZK_12 zk4]
    exact g9
  · rw [e713.1, e513.1, e413.1]
    exact s13
  · rw [e713.2.1, e513.2.1, e413.2.1]
    exact s14
  · rw [e713.2.2, e513.2.2, e413.2.2]
    exact s15
end DYD
end JnS526
section JnS527
/-! The class: params of funcs and procs. -/
section DYE
variable {σ σ' σ0 σ2 τ τ' τ0 : CS} {L L2 : LV} {b pr : Bool} {T : Nat → Int32} {n q q' q0 u al o v mk mk' p sz sz' szB nc nc0 sz0 mk0 a1 a2 m kk f w st w' st' r0 c vg vg' vg0 N N0 kd M M' j : Nat} {y qh x : Int32} {l l' cs cs' : List Int32} {tb tb' es : List Ent} {E E' E0 E1 : En} {bt : BT} {lo : Option Nat} {bs : List Int32} {md : Nat → Nat}
theorem sh_c : ∀ c : Nat, c < 8 → (((2 * nI c) &&& 31).toBitVec.smod 32).toNat = 2 * c := by decide
theorem p4_2 (c : Nat) : 4 ^ c = 2 ^ (2 * c) := by rw [Nat.pow_mul]
theorem p4_le {c : Nat} (h : c < 8) : 4 ^ c ≤ 16384 := Nat.pow_le_pow_right (n := 4) (by decide) (show c ≤ 7 by omega)
/-- a mode is put upon the others -/
theorem md_or (hc : c < 8) (hm : m ≤ 2) (hM : M < 4 ^ c) : nI M ||| (nI m <<< ((2 * nI c) &&& 31)) = nI (M + m * 4 ^ c) := by
  have p4 := p4_le hc
  have p2 : m * 4 ^ c ≤ 2 * 16384 := Nat.mul_le_mul hm p4
  have e1 : uN (nI m <<< ((2 * nI c) &&& 31)) = m * 2 ^ (2 * c) := by
    rw [u_shl _ (sh_c c hc) (by rw [u_n (by omega), ← p4_2]; omega), u_n (by omega)]
  rw [u_of (nI M ||| _)]
  refine congrArg nI ?_
  rw [u_orA (k := 2 * c) (a := m) (by rw [u_n (by omega), ← p4_2]; exact hM) e1, e1, u_n (by omega), p4_2]
theorem md_get (hj : j < 8) (hM : M < 65536) : (nI M >>> ((2 * nI j) &&& 31)) &&& 3 = nI (M / 4 ^ j % 4) := by
  have eM : uN (nI M) = M := u_n (by omega)
  rw [u_of ((nI M >>> ((2 * nI j) &&& 31)) &&& 3), u_and]
  refine congrArg nI ((Nat.and_two_pow_sub_one_eq_mod (uN (nI M >>> ((2 * nI j) &&& 31))) 2).trans ?_)
  have e : uN (nI M >>> ((2 * nI j) &&& 31)) = M / 2 ^ (2 * j) := by
    show ((nI M).toBitVec.sshiftRight' (((2 * nI j) &&& 31).toBitVec.smod 32)).toNat = _
    rw [BitVec.sshiftRight_eq', sh_c j hj, BitVec.sshiftRight_eq_of_msb_false (by rw [BitVec.msb_eq_decide]; exact decide_eq_false (by show ¬ 2 ^ 31 ≤ uN (nI M); omega)), BitVec.toNat_ushiftRight, Nat.shiftRight_eq_div_pow]
    show uN (nI M) / _ = _
    rw [eM]
  rw [e, p4_2]
/-- modes as a number -/
def MdN (M c : Nat) (md : Nat → Nat) : Prop := M < 4 ^ c ∧ ∀ j, j < c → M / 4 ^ j % 4 = md j ∧ md j ≤ 2
theorem MdN_0 : MdN 0 0 md := ⟨by decide, fun j hj => absurd hj (Nat.not_lt_zero _)⟩
theorem MdN_s (h : MdN M c md) (hm : m ≤ 2) : MdN (M + m * 4 ^ c) (c + 1) (updN md c m) := by
  obtain ⟨h1, h2⟩ := h
  have e4 : 4 ^ (c + 1) = 4 ^ c * 4 := Nat.pow_succ 4 c
  have pp : 0 < 4 ^ c := Nat.pos_of_ne_zero (by have := Nat.pow_pos (n := c) (show 0 < 4 by decide); omega)
  refine ⟨?_, fun j hj => ?_⟩
  · have : m * 4 ^ c ≤ 2 * 4 ^ c := Nat.mul_le_mul_right _ hm
    omega
  · by_cases e : j = c
    · rw [e]
      have e2 : (M + m * 4 ^ c) / 4 ^ c = m := by
        rw [Nat.add_mul_div_right _ _ pp, Nat.div_eq_of_lt h1, Nat.zero_add]
      have e3 : updN md c m c = m := if_pos rfl
      rw [e2, e3]
      exact ⟨Nat.mod_eq_of_lt (by omega), hm⟩
    · have e3 : updN md c m j = md j := if_neg e
      rw [e3]
      refine ⟨?_, (h2 j (by omega)).2⟩
      have ex : ∃ d, c = j + 1 + d := ⟨c - (j + 1), by omega⟩
      obtain ⟨d, ed⟩ := ex
      have e5 : m * 4 ^ c = (m * 4 ^ d * 4) * 4 ^ j := by
        rw [ed, Nat.pow_add, Nat.pow_succ, Nat.mul_comm (4 ^ j * 4) (4 ^ d), Nat.mul_comm (4 ^ j) 4, ← Nat.mul_assoc (4 ^ d) 4, ← Nat.mul_assoc m, ← Nat.mul_assoc m]
      have pj : 0 < 4 ^ j := Nat.pow_pos (by decide)
      rw [e5, Nat.add_mul_div_right _ _ pj, Nat.add_mul_mod_self_right]
      exact (h2 j (by omega)).1
theorem MdN_l (h : MdN M c md) (hc : c ≤ 8) : M < 65536 := by
  have : 4 ^ c ≤ 4 ^ 8 := Nat.pow_le_pow_right (by decide) hc
  have := h.1
  omega
/-- what is around in a unit whose params are being told -/
def EPm (p : Nat) (E1 E : En) (c : Nat) : Prop := E.1 = E1.1 ∧ (E.2.2.2.1 = E1.2.2.2.1 ∧ E.2.2.2.2.1 = E1.2.2.2.2.1 ∧ E.2.2.2.2.2.1 = E1.2.2.2.2.2.1) ∧ (∀ i, ¬ i = p → E.2.2.2.2.2.2 i = E1.2.2.2.2.2.2 i) ∧ E.2.2.2.2.2.2 p = c
/-- how it stands among params -/
def PmS (T : Nat → Int32) (n : Nat) (b : Bool) (nc al mk N st : Nat) (qh : Int32) (E1 : En) (vg : Nat) (σ0 : CS) (M : Nat) (E : En) (c : Nat) (md : Nat → Nat) (q v : Nat) (τ : CS) : Prop := (QS T n b (nc + 1) al (tbE (nc + 1) E) 1 q v mk 0 N τ ∧ ZF b (nc + 1) v st none qh τ ∧ DE E (nc + 1) vg (nc + 1) v) ∧ (c = v ∧ c ≤ 8) ∧ (τ.1 (fP b 12) = nI (nc + 1) ∧ UnK b (nc + 1) σ0 τ ∧ τ.2.2.1 (pR13 b) (nc + 1) = nI N ∧ τ.2.2.1 (pR14 b) (nc + 1) = nI c ∧ τ.2.2.1 (pR15 b) (nc + 1) = nI M) ∧ MdN M c md ∧ EPm nc E1 E c
/-- a row of the unit is set -/
theorem QS_u {k i : Nat} {y : Int32} (h : QS T n b u al tb o q v mk p N σ) (hk : k = pR13 b ∨ k = pR14 b ∨ k = pR15 b) (hi : ¬ i = 41 := by omega) : QS T n b u al tb o q v mk p N (uA σ k i y) ∧ DK b N σ (uA σ k i y) := by
  have p13 := pR_13 b
  exact QS_ww h (fun _ _ => rfl) rfl (fun k' hk' => uA_k (by omega)) rfl h.2.2.2.2.1.2.1 h.2.2.2.2.1.2.2.1 (by rw [uA_k (by omega)]; exact h.2.2.2.2.2.2.1.1) h.2.2.2.2.2.2.1.2 h.2.2.2.2.2.2.2 ⟨by rw [uA_k (by omega)], by
    by_cases e : k = pR14 b
    · rw [e, uA_r, upd_other (fun z => hi z.symm)]
    · rw [uA_k (fun z => e z.symm)]⟩
theorem ZF_u {k i : Nat} {y : Int32} (h : ZF b u w st lo qh σ) (hk : k = pR13 b ∨ k = pR14 b ∨ k = pR15 b) : ZF b u w st lo qh (uA σ k i y) := by
  have p13 := pR_13 b
  exact ⟨by rw [uA_k (by omega)]; exact h.1, h.2⟩
theorem UnK_u {k : Nat} {y : Int32} (h : UnK b u σ τ) (hk : k = pR14 b ∨ k = pR15 b) : UnK b u σ (uA τ k u y) := fun i hi => by
  have p13 := pR_13 b
  obtain ⟨⟨a1, a2⟩, ⟨a3, a4⟩, a5⟩ := h i hi
  rcases hk with e | e
  · rw [e]
    exact ⟨⟨by rw [uA_k (by omega)]; exact a1, by rw [uA_r, upd_other hi]; exact a2⟩, ⟨by rw [uA_k (by omega)]; exact a3, by rw [uA_k (by omega)]; exact a4⟩, by rw [uA_k (by omega)]; exact a5⟩
  · rw [e]
    exact ⟨⟨by rw [uA_k (by omega)]; exact a1, by rw [uA_k (by omega)]; exact a2⟩, ⟨by rw [uA_r, upd_other hi]; exact a3, by rw [uA_k (by omega)]; exact a4⟩, by rw [uA_k (by omega)]; exact a5⟩
/-- behind a param, its mode not put down yet -/
def PmRr (T : Nat → Int32) (n : Nat) (b : Bool) (u al mk N st : Nat) (qh : Int32) (tb : List Ent) (q v c : Nat) (τ τ' : CS) : Prop := QS T n b u al (tb ++ [(tkS T n q, 0, u, v, false)]) 1 (tkN T n q) (v + 1) mk 0 N τ' ∧ ZF b u (v + 1) st none qh τ' ∧ UnK b u τ τ' ∧ τ'.1 (fP b 12) = τ.1 (fP b 12) ∧ τ'.2.2.1 (pR13 b) u = τ.2.2.1 (pR13 b) u ∧ τ'.2.2.1 (pR14 b) u = nI (c + 1) ∧ τ'.2.2.1 (pR15 b) u = τ.2.2.1 (pR15 b) u
/-- the fault of a param -/
def PaF (T : Nat → Int32) (n : Nat) (tb : List Ent) (r0 q v c : Nat) (y : Nat × Nat) : Prop := (¬ tkK T n q = 26 ∧ y = (2, q)) ∨ (tkK T n q = 26 ∧ ¬ (∀ j, r0 ≤ j → j < tb.length → ¬ (tb.getD j e0E).1 = tkS T n q) ∧ y = (4, q)) ∨ (tkK T n q = 26 ∧ (∀ j, r0 ≤ j → j < tb.length → ¬ (tb.getD j e0E).1 = tkS T n q) ∧ c = 8 ∧ y = (8, q)) ∨ (tkK T n q = 26 ∧ (∀ j, r0 ≤ j → j < tb.length → ¬ (tb.getD j e0E).1 = tkS T n q) ∧ ¬ c = 8 ∧ NmQF T n tb r0 q v y)
theorem c_param {z : Fl Unit} (hu : u < 41) (h : QS T n b u al tb 1 q v mk 0 N τ) (zf : ZF b u v st none qh τ) (hl : v < 60 → tb.length < 256) (e14 : τ.2.2.1 (pR14 b) u = nI c) (hc : c ≤ 8) (hr : r0 ≤ tb.length) (l1 : L.1 1 = nI r0) (hz : (∃ y, PaF T n tb r0 q v c y ∧ z = Sum.inl y) ∨ ((NmG T n tb r0 q v ∧ ¬ c = 8) ∧ z = Sum.inr ())) : Tm (fun k => f_X5_parameter k 0 L τ) (DPo b N z (fun _ _ τ' => PmRr T n b u al mk N st qh tb q v c τ τ') τ 0 0) := by
  have d0 := Dy_0 h
  have e3 : τ.1 4003 = nI u := h.2.2.2.2.1.2.1
  have i42 : ¬ (nI u < 0 ∨ 42 ≤ (nI u).toNatClampNeg) := u_in (by rw [u_n (by omega)]; omega) (by decide)
  have cl : (nI u).toNatClampNeg = u := n_cl (p := u) (by omega)
  have p13 := pR_13 b
  have pp : sPp τ = some b := h.2.2.2.2.1.1
  have v60 : v ≤ 60 := h.2.2.2.2.2.2.1.2
  refine Tm_suc (fun k => by rw [f_X5_parameter]) ?_
  by_cases k26 : tkK T n q = 26
  case neg =>
    have zn : z = Sum.inl (2, q) := by
      rcases hz with ⟨y, w1, w2⟩ | w
      · rcases w1 with ⟨_, a⟩ | ⟨a, _⟩ | ⟨a, _⟩ | ⟨a, _⟩
        · rw [w2, a]
        · exact absurd a k26
        · exact absurd a k26
        · exact absurd a k26
      · exact absurd w.1.1.1 k26
    rw [zn]
    exact dt_callQ (z := Sum.inl _) d0 (Nat.le_refl _) (c_wantQ (kk := 26) h (by decide) rfl (Or.inl ⟨k26, rfl⟩)) (Or.inl ⟨_, rfl, rfl⟩)
  refine dt_callQ (z := Sum.inr q) d0 (Nat.le_refl _) (c_wantQ (kk := 26) h (by decide) rfl (Or.inr ⟨k26, rfl⟩)) (Or.inr ⟨_, rfl, fun τ1 ret1 n1 n2 h1 xk1 dy1 => ?_⟩)
  obtain rfl := h1
  have okn := tk_ok h.1 k26
  have ky := (h.1.2.2.2.2.2.2.2.2 k26).1
  refine Tm_oP pp ?_
  refine Tm_op (c_toldFrom (bs := tkS T n q) (r0 := r0) h.2.2.2.1 rfl okn ky.1 ky.2 l1 hr) (fun r4 z4 => ?_)
  obtain ⟨er4, z4⟩ := z4
  rw [er4]
  by_cases kt : ∀ j, r0 ≤ j → j < tb.length → ¬ (tb.getD j e0E).1 = tkS T n q
  case neg =>
    have zn : z = Sum.inl (4, q) := by
      rcases hz with ⟨y, w1, w2⟩ | w
      · rcases w1 with ⟨a, _⟩ | ⟨_, _, a⟩ | ⟨_, a, _⟩ | ⟨_, a, _⟩
        · exact absurd k26 a
        · rw [w2, a]
        · exact absurd a kt
        · exact absurd a kt
      · exact absurd w.1.1.2.1 kt
    rw [zn]
    refine Tm_no (fun w => kt (z4.1 w)) ?_
    exact dt_ref h dy1 (Nat.le_refl _) rfl (lx_3 h) (by decide)
  refine Tm_yes (z4.2 kt) ?_
  refine Tm_suc (fun k => by rw [f_X5_parameter]) ?_
  refine Tm_oP pp ?_
  rw [e3]
  refine Tm_chk i42 ?_
  rw [cl, e14]
  by_cases c8 : c = 8
  · have zn : z = Sum.inl (8, q) := by
      rcases hz with ⟨y, w1, w2⟩ | w
      · rcases w1 with ⟨a, _⟩ | ⟨_, a, _⟩ | ⟨_, _, _, a⟩ | ⟨_, _, a, _⟩
        · exact absurd k26 a
        · exact absurd kt a
        · rw [w2, a]
        · exact absurd c8 a
      · exact absurd c8 w.1.2
    rw [zn]
    refine Tm_no (by rw [c8]; decide) ?_
    exact dt_ref h dy1 (Nat.le_refl _) rfl (lx_3 h) (by decide)
  refine Tm_yes (by rw [u_ltn (by rw [u_n (by omega)]; omega) (by decide), u_n (by omega)]; show c < 8; omega) ?_
  refine Tm_suc (fun k => by rw [f_X5_parameter]) ?_
  by_cases hN : NmG T n tb r0 q v
  case neg =>
    obtain ⟨y0, hy, zy⟩ : ∃ y, NmQF T n tb r0 q v y ∧ z = Sum.inl y := by
      rcases hz with ⟨y, w1, w2⟩ | w
      · rcases w1 with ⟨a, _⟩ | ⟨_, a, _⟩ | ⟨_, _, a, _⟩ | ⟨_, _, _, a⟩
        · exact absurd k26 a
        · exact absurd kt a
        · exact absurd a c8
        · exact ⟨y, a, w2⟩
      · exact absurd w.1.1 hN
    rw [zy]
    exact dt_callZ (z := Sum.inl _) dy1 (Nat.le_refl _) (c_tv (L := lI lZ 1 (L.1 1)) h zf (by omega) hl (by omega) l1 hr (Or.inl ⟨y0, hy, rfl⟩)) (Or.inl ⟨_, rfl, rfl⟩)
  have zs : z = Sum.inr () := by
    rcases hz with ⟨y, w1, w2⟩ | w
    · exfalso
      rcases w1 with ⟨a, _⟩ | ⟨_, a, _⟩ | ⟨_, _, a, _⟩ | ⟨_, _, _, a⟩
      · exact a k26
      · exact a kt
      · exact c8 a
      · exact NmQF_no a hN
    · exact w.2
  rw [zs]
  refine dt_callZ (z := Sum.inr ()) dy1 (Nat.le_refl _) (c_tv (L := lI lZ 1 (L.1 1)) h zf (by omega) hl (by omega) l1 hr (Or.inr ⟨hN, rfl⟩)) (Or.inr ⟨_, rfl, fun τ2 ret2 n3 n4 h2 zk2 dy2 => ?_⟩)
  obtain ⟨h2, zf2⟩ := h2
  refine Tm_oP h2.2.2.2.2.1.1 ?_
  have e32 : τ2.1 4003 = nI u := h2.2.2.2.2.1.2.1
  show Tm (fun k => if ¬ (τ2.1 4003 < 0 ∨ 42 ≤ (τ2.1 4003).toNatClampNeg) then (if ¬ (τ2.1 4003 < 0 ∨ 42 ≤ (τ2.1 4003).toNatClampNeg) then (some ((0, 0), (uA τ2 (pR14 b) (τ2.1 4003).toNatClampNeg (τ2.2.2.1 (pR14 b) (τ2.1 4003).toNatClampNeg + 1)), (0, 0))) else none) else none) _
  rw [e32]
  refine Tm_chk i42 (Tm_chk i42 ?_)
  obtain ⟨e213, e214, e215⟩ := ZK_13 zk2
  rw [cl, e214, e14, show nI c + 1 = nI (c + 1) from n_add (q := 1) (by omega)]
  obtain ⟨h3, dk3⟩ := QS_u (k := pR14 b) (i := u) (y := nI (c + 1)) h2 (Or.inr (Or.inl rfl))
  have ph := Ph_s (σ := τ2) (σ' := uA τ2 (pR14 b) u (nI (c + 1))) rfl
  refine Tm_some (Dfin ⟨DK_t dy2.1 dk3 (Nat.le_refl _), by have := dy2.2.1; omega, by have := dy2.2.2; omega⟩ ⟨h3, ZF_u zf2 (Or.inr (Or.inl rfl)), UnK_u (UnK_Z zk2) (Or.inl rfl), ?_, ?_, ?_, ?_⟩)
  · show τ2.1 (fP b 12) = _
    exact ZK_12 zk2
  · rw [uA_k (by omega), e213]
  · rw [uA_r, upd_same]
  · rw [uA_k (by omega), e215]
theorem PaF_8 (c8 : c = 8) : PaF T n (tbE u E) E.1.length q v c (paF T n E q) := by
  by_cases k26 : tkK T n q = 26
  · by_cases fi : (E.2.1.find? (fun x => decide (x.1 = tkS T n q))).isSome = false
    · rw [paF_8 k26 fi]; exact Or.inr (Or.inr (Or.inl ⟨k26, told_1.2 fi, c8, rfl⟩))
    · rw [paF_4 k26 (by cases hh : (E.2.1.find? (fun x => decide (x.1 = tkS T n q))).isSome with
        | true => rfl
        | false => exact absurd hh fi)]
      exact Or.inr (Or.inl ⟨k26, fun z => fi (told_1.1 z), rfl⟩)
  · rw [paF_2 k26]; exact Or.inl ⟨k26, rfl⟩
theorem PaF_of {y : Nat × Nat} (c8 : ¬ c = 8) (h : NmQF T n tb r0 q v y) : PaF T n tb r0 q v c y := by
  rcases h with (⟨a, e⟩ | ⟨a, b', e⟩ | ⟨a, b', d, e⟩) | ⟨⟨a, b', d⟩, e, g⟩
  · exact Or.inl ⟨a, e⟩
  · exact Or.inr (Or.inl ⟨a, b', e⟩)
  · exact Or.inr (Or.inr (Or.inr ⟨a, b', c8, Or.inl (Or.inr (Or.inr ⟨a, b', d, e⟩))⟩))
  · exact Or.inr (Or.inr (Or.inr ⟨a, b', c8, Or.inr ⟨⟨a, b', d⟩, e, g⟩⟩))
/-- a param without a mode, and what the reference says of it -/
theorem c_paramF {z : Fl Unit} (h : PmS T n b nc al mk N st qh E1 vg σ0 M E c md q v τ) (hu : nc + 1 < 41) (l1 : L.1 1 = nI E1.1.length) (hz : (∃ y, PaF T n (tbE (nc + 1) E) E.1.length q v c y ∧ z = Sum.inl y) ∨ ((NmG T n (tbE (nc + 1) E) E.1.length q v ∧ ¬ c = 8) ∧ z = Sum.inr ())) : Tm (fun k => f_X5_parameter k 0 L τ) (DPo b N z (fun _ _ τ' => PmRr T n b (nc + 1) al mk N st qh (tbE (nc + 1) E) q v c τ τ') τ 0 0) := by
  obtain ⟨⟨h1, h2, h3⟩, ⟨h4, h4'⟩, ⟨h5, h6, h7, h8, h9⟩, h10, h11⟩ := h
  exact c_param hu h1 h2 (DE_l h3) h8 h4' (by rw [tbE_l]; omega) (by rw [l1, h11.1]) hz
/-- so it stands behind it -/
theorem PmS_s {E' : En} (h : PmS T n b nc al mk N st qh E1 vg σ0 M E c md q v τ) (c8 : ¬ c = 8) (r : PmRr T n b (nc + 1) al mk N st qh (tbE (nc + 1) E) q v c τ τ') (eE : tbE (nc + 1) E' = tbE (nc + 1) E ++ [(tkS T n q, 0, nc + 1, v, false)]) (de : DE E' (nc + 1) vg (nc + 1) (v + 1)) (dx : DxR (nc + 1) E E') : PmS T n b nc al mk N st qh E1 vg σ0 M (sP E' nc (c + 1)) (c + 1) (updN md c 0) (tkN T n q) (v + 1) τ' := by
  obtain ⟨⟨h1, h2, h3⟩, ⟨h4, h4'⟩, ⟨h5, h6, h7, h8, h9⟩, h10, ⟨g1, ⟨g2, g3, g4⟩, g5, g6⟩⟩ := h
  obtain ⟨r1, r2, r3, r4, r5, r6, r7⟩ := r
  obtain ⟨x1, x2, x3, x4⟩ := dx
  rw [← eE] at r1
  have md1 := MdN_s (m := 0) h10 (by omega)
  rw [Nat.zero_mul, Nat.add_zero] at md1
  refine ⟨⟨r1, r2, de⟩, ⟨by omega, by omega⟩, ⟨r4.trans h5, UnK_t h6 r3, r5.trans h7, r6, r7.trans h9⟩, md1, ⟨(x2 (by omega)).trans g1, ⟨?_, ?_, ?_⟩, fun i hi => ?_, ?_⟩⟩
  · show E'.2.2.2.1 = _; rw [x1]; exact g2
  · show E'.2.2.2.2.1 = _; rw [x1]; exact g3
  · show E'.2.2.2.2.2.1 = _; rw [x1]; exact g4
  · show updN E'.2.2.2.2.2.2 nc (c + 1) i = _
    rw [show updN E'.2.2.2.2.2.2 nc (c + 1) i = E'.2.2.2.2.2.2 i from if_neg hi, x1]
    exact g5 i hi
  · show updN E'.2.2.2.2.2.2 nc (c + 1) nc = _
    exact if_pos rfl
/-- a mode is put down -/
theorem PmS_m (h : PmS T n b nc al mk N st qh E1 vg σ0 M E (c + 1) (updN md c 0) q v τ) (hM : MdN M c md) (hm : m ≤ 2) : PmS T n b nc al mk N st qh E1 vg σ0 (M + m * 4 ^ c) E (c + 1) (updN md c m) q v (uA τ (pR15 b) (nc + 1) (nI (M + m * 4 ^ c))) := by
  obtain ⟨⟨h1, h2, h3⟩, ⟨h4, h4'⟩, ⟨h5, h6, h7, h8, h9⟩, h10, h11⟩ := h
  have p13 := pR_13 b
  exact ⟨⟨(QS_u h1 (Or.inr (Or.inr rfl)) (by have := h3.2.1.2.2.1; omega)).1, ZF_u h2 (Or.inr (Or.inr rfl)), h3⟩, ⟨h4, h4'⟩, ⟨h5, UnK_u h6 (Or.inr rfl), by rw [uA_k (by omega)]; exact h7, by rw [uA_k (by omega)]; exact h8, by rw [uA_r, upd_same]⟩, MdN_s hM hm, h11⟩
end DYE
end JnS527
