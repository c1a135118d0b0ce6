/-! The class: fors with a condition. -/
section CYK
variable {σ σ' σ0 τ τ' τ0 : CS} {L : LV} {b : Bool} {T : Nat → Int32} {n q q' u al o v mk mk' p sz sz' szB szE nc nc0 sz0 mk0 a1 a2 m kk f e s0 ow a t0 g D w st w' st' M nm deep vv np lp N Bd nb k d P h st0 b0 it q0 v0 r0 c : Nat} {y qh qh' y0 y1 wd x0 x1 x3 : Int32} {l l' cs cs' cs2 ll lt lt0 co bo : List Int32} {tb tb' es : List Ent} {ns : List Nm} {E : En} {gl : Nat × (Nat → Nat → Prop)} {Vm Vm' : Nat → Prop} {Pc : Nat → Nat → Prop} {MD : Nat → Nat → Nat} {md : Nat → Nat} {bt : BT} {ks qs qs' qa qb js qsI : List Nat} {lo lo' : Option Nat} {s : SB} {α : Type} {S : α → Int32 → CS → Prop} {x : Option α} {C : Prop} {hd : Bool}
/-- a condition behind the iters -/
theorem c_forC {x2 : Option RT} {zF : Option (Nat × Nat × Nat)} {bt' : BT} {rq rv : Nat} (cx : CxS n E b u al gl Vm Pc MD tb lp lo σ) (bd : BdB n o q v mk N w tb.length) (ho : o < 20) (fs : FoS T n b u al gl Pc Vm σ a1 a2 tb o mk N w st lo qh q v (seeN E ns) rq rv L τ) (e15 : τ.1 4015 = L.1 7) (k15 : tkK T n rq = 15) (hN : tkK T n (tkN T n rq) = 0 → zF = none) (hG : ¬ tkK T n (tkN T n rq) = 0 → G T n f 0 (seeN E ns) (o + 1) (tkN T n rq) rv 0 0 0 0 bt' = some x2) (h0 : x2 = none → zF = none) (hs : ¬ tkK T n (tkN T n rq) = 0 → ∀ t, x2 = some t → ∀ (τ' : CS) (n1 n2 : Nat), FoS T n b u al gl Pc Vm σ n1 n2 tb o mk N w st lo qh q v (seeN E ns) t.1 t.2.1 L τ' → Tm (fun k => f_F3 k d 1 1 L τ') (ZPo b u tb.length N mk zF (fun r _ τ => S1W T n b u al gl Pc Vm tb o mk N q v w st lo qh (bdO o v) r τ) σ n1 n2)) : Tm (fun k => foC d L τ k) (ZPo b u tb.length N mk zF (fun r _ τ => S1W T n b u al gl Pc Vm tb o mk N q v w st lo qh (bdO o v) r τ) σ a1 a2) := by
  obtain ⟨es, cs, csR, w2', fi, la, xm, lm, pl, s1, fr, ⟨f1, f2, f3⟩, ⟨f4, f5, f6, f6'⟩, f7, f8, ⟨f9, f9'⟩, nm, n3, ⟨nt, mb⟩, ⟨l1, l2, l3⟩, l5, l6, l7⟩ := fs
  obtain ⟨bd1, bd2, bd3, bd4⟩ := bd
  have n10 := cx.1.2.2.2.2
  have go1 := tk_go s1.1.1
  have g1 := go1.2.2 (by omega)
  have f33 := fr.1.2.2 f5
  unfold foC
  refine Tm_yes ((lx_k (kk := 15) s1.1.1 (by decide)).2 k15) ?_
  by_cases w1 : tkK T n (tkN T n rq) = 0
  · exact zt_adv (C := False) s1 (Or.inl ⟨w1, hN w1⟩) (fun _ _ _ _ c _ _ => c.elim)
  refine zt_adv (C := True) s1 (Or.inr ⟨w1, trivial⟩) (fun τ2 ret2 n1 n2 _ s2 xk2 => ?_)
  have go2 := tk_go s2.1.1
  have bdx : BdX n (o + 1) (tkN T n rq) rv (mk + 3 * pl.length) 0 (N + cs.length) (tb ++ es).length := ⟨n10, by omega, by omega, nt, by omega⟩
  have ev2 : EvX (seeN E ns) b u al gl (VmX Vm xm) (tb ++ es) τ2 := EvX_f (EvX_z cx.1.1 s2.1.2.1) nm rfl
  cases x2 with
  | none =>
    rw [h0 rfl]
    exact zt_exp (C := True) s2 ev2 bdx rfl (hG w1) (Or.inl ⟨rfl, rfl⟩) (fun _ _ _ _ _ _ z => by cases z)
  | some t =>
    refine zt_exp (C := True) s2 ev2 bdx rfl (hG w1) (Or.inr ⟨t, rfl, trivial⟩) (fun τ3 ret3 n3' n4 r' co hzz _ s3 xk3 sg lnc lt lvc tg => ?_)
    cases hzz
    have go3 := tk_go s3.1.1
    have lc : (cs ++ co).length = cs.length + co.length := List.length_append
    refine Tm_oP (Zy_pp s3) (Tm_oP (Zy_pp s3) ?_)
    refine zt_emit (op := 4) s3 rfl rfl (by rw [lc]; omega) (fun τ4 n5 n6 s4 xk4 => ?_)
    have s4' : Zy T n b u al σ tb.length N mk (a1 + n1 + n3' + n5) (a2 + n2 + n4 + n6) (tb ++ es) (o + 1) t.1 t.2.1 (mk + 3 * pl.length) w2' st lo qh N (cs ++ co ++ [em 4 0]) τ4 := s4
    have l4 : (cs ++ co ++ [em 4 0]).length = cs.length + co.length + 1 := by rw [List.length_append, lc]; rfl
    have gc : (cs ++ co ++ [em 4 0]).getD (cs.length + co.length) 0 = em 4 0 := by
      have z := gd_r (a := cs ++ co) (b := [em 4 0]) 0
      rw [lc] at z
      exact z
    have e4 : nI (N + (cs ++ co).length) = nI (N + (cs.length + co.length)) := by rw [lc]
    refine Tm_op (c_aim (op := 4) (x := 0) (h := cs.length + co.length) (Sy_z s4') (Nat.le_refl _) (by rw [l4]; omega) (by decide) gc rfl e4) (fun r5 z5 => ?_)
    have s5 := Zy_s s4' z5 (Nat.le_refl _)
    have ew : (lI (lI (lB lZ 0 b) 1 (nI (N + (cs ++ co).length))) 2 (τ.1 4015)).1 2 - (lI (lI (lB lZ 0 b) 1 (nI (N + (cs ++ co).length))) 2 (τ.1 4015)).1 1 = nI la - nI (csR.length + co.length) := by
      show τ.1 4015 - nI (N + (cs ++ co).length) = _
      rw [e15, l7, e4, f1]
      exact n_ss N la (csR.length + co.length) (by omega) (by omega)
    have s5' : Zy T n b u al σ tb.length N mk (a1 + n1 + n3' + n5 + 0) (a2 + n2 + n4 + n6 + 0) (tb ++ es) (o + 1) t.1 t.2.1 (mk + 3 * pl.length) w2' st lo qh N ((cs ++ co ++ [em 4 0]).set (cs.length + co.length) (em 4 (nI la - nI (csR.length + co.length)))) r5.2 := by
      rw [← ew]; exact s5
    have fr2 := FRw_cd (Vm' := VmX Vm xm) fr f5 (fun i z => z) (fun i z => Or.inl z) sg
    have lR : (csR ++ (co ++ [em 4 (nI la - nI (csR.length + co.length))])).length = csR.length + co.length + 1 := by rw [List.length_append, List.length_append]; show csR.length + (co.length + 1) = _; omega
    have lS : ((cs ++ co ++ [em 4 0]).set (cs.length + co.length) (em 4 (nI la - nI (csR.length + co.length)))).length = cs.length + co.length + 1 := by rw [List.length_set, l4]
    have mk5 : ∀ i, i < 3 * pl.length → r5.2.2.2.1 41 (mk + i) = (mkF3 pl).getD i 0 := fun i hi => by
      have z := (z5.1.2.1).2.2.2.2.2.2.1 (mk + i) (by omega)
      rw [z, xk4.2.2.2.2.2.2.1 (mk + i) (by omega), xk3.2.2.2.2.2.2.1 (mk + i) (by omega), xk2.2.2.2.2.2.2.1 (mk + i) (by omega)]
      exact f8 i hi
    refine hs w1 t rfl r5.2 _ _ ⟨es, _, _, w2', fi, la, xm, lm, pl, s5', fr2, ⟨by rw [lS, lR, f1], ?_, fun i hi hn => ?_⟩, ⟨f4, f5, by omega, by omega⟩, f7, mk5, ⟨by rw [lS]; omega, by omega⟩, nm, n3, ⟨by omega, by omega⟩, ⟨l1, l2, l3⟩, l5, l6, l7⟩
    · rw [gd_set, if_neg (by omega), List.append_assoc, gd_l (by omega)]; exact f2
    · rw [lR] at hi
      rw [gd_set]
      by_cases c1 : i = cs.length + co.length
      · rw [if_pos ⟨c1, by rw [l4]; omega⟩]
        have z := gd_r (a := csR) (b := co ++ [em 4 (nI la - nI (csR.length + co.length))]) co.length
        have z2 := gd_r (a := co) (b := [em 4 (nI la - nI (csR.length + co.length))]) 0
        rw [c1, f1, z]
        exact z2.symm
      · rw [if_neg (fun z => c1 z.1), gd_l (by rw [lc]; omega)]
        by_cases c2 : i < cs.length
        · rw [gd_l c2, gd_l (by omega)]; exact f3 i (by omega) hn
        · have z := gd_r (a := cs) (b := co) (i - cs.length)
          have z2 := gd_r (a := csR) (b := co ++ [em 4 (nI la - nI (csR.length + co.length))]) (i - csR.length)
          rw [show cs.length + (i - cs.length) = i by omega] at z
          have z3 : (co ++ [em 4 (nI la - nI (csR.length + co.length))]).getD (i - csR.length) 0 = co.getD (i - csR.length) 0 := gd_l (by omega)
          rw [show csR.length + (i - csR.length) = i by omega] at z2
          rw [z, z2, z3, f1]
theorem gb_ex {x0 : RG} {k : RT → SR} {k2 : ST → SR} {y : Option ST} (h : hb (lb x0 k) k2 = some y) : ∃ x, x0 = some x := by
  rcases hb_any h with ⟨y1, _⟩ | ⟨_, y1, _⟩
  · rcases lb_any y1 with ⟨y3, _⟩ | ⟨_, y3, _⟩
    · exact ⟨_, y3⟩
    · exact ⟨_, y3⟩
  · rcases lb_any y1 with ⟨y3, _⟩ | ⟨_, y3, _⟩
    · exact ⟨_, y3⟩
    · exact ⟨_, y3⟩
end CYK
