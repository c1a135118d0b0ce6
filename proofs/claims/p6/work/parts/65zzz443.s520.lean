/-! The class: fors, up to do. -/
section CYJ
variable {σ σ' σ0 τ τ' τ0 : CS} {L : LV} {b : Bool} {T : Nat → Int32} {n q q' u al o v mk mk' p sz sz' szB szE nc nc0 sz0 mk0 a1 a2 m kk f e s0 ow a t0 g D w st w' st' M nm deep vv np lp N Bd nb k d P h st0 b0 it q0 v0 r0 c : Nat} {y qh qh' y0 y1 wd x0 x1 x3 : Int32} {l l' cs cs' cs2 ll lt lt0 co bo : List Int32} {tb tb' es : List Ent} {ns : List Nm} {E : En} {gl : Nat × (Nat → Nat → Prop)} {Vm Vm' : Nat → Prop} {Pc : Nat → Nat → Prop} {MD : Nat → Nat → Nat} {md : Nat → Nat} {bt : BT} {ks qs qs' qa qb js qsI : List Nat} {lo lo' : Option Nat} {s : SB} {α : Type} {S : α → Int32 → CS → Prop} {x : Option α} {C : Prop} {hd : Bool}
/-- behind the iters: a condition, or do -/
def foC (d : Nat) (LF : LV) (τ : CS) (k : Nat) : Option RS := if τ.1 3702 = 19 then (ox (f_X2_advance k 0 lZ τ) (fun r13 => ox (f_X5_exp k 0 (lI lZ 1 0) r13.2.1) (fun r14 => oP (sPp r14.2.1) (fun b15 => oP (sPp r14.2.1) (fun b16 => ox (f_X7_emit__P k 0 (lI (lI (lB lZ 0 b16) 1 4) 2 0) r14.2.1) (fun r17 => op (y_X7_aim__P k 0 (lI (lI (lB lZ 0 b15) 1 r17.1.2) 2 (τ.1 4015)) r17.2.1) (fun r18 => f_F3 k d 1 1 LF r18.2))))))) else (f_F3 k d 1 1 LF τ)
theorem c_for0 {z17 : Option RT} {zF : Option (Nat × Nat × Nat)} {bt' : BT} (hG : G T n f 17 E (o + 1) (tkN T n q) v 0 0 E.2.2.1.length 1 bt' = some z17) (w1 : ¬ tkK T n (tkN T n q) = 0) (ho : ¬ o = 20) (h : QS T n b u al tb o q v mk 0 (N + 1) σ) (zf : ZF b u w st lo qh σ) (hbg : cdr b σ N = em 0 (nI q)) (cx : CxS n E b u al gl Vm Pc MD tb lp lo σ) (bd : BdB n o q v mk N w tb.length) (h25 : ¬ tkK T n q = 25) (h0 : z17 = none → zF = none) (hs : ∀ r, z17 = some r → ∀ (τ : CS) (LF : LV) (n1 n2 : Nat), FoS T n b u al gl Pc Vm σ n1 n2 tb o mk N w st lo qh q v (seeN E r.2.2.2.2.2) r.1 r.2.1 LF τ → τ.1 4015 = LF.1 7 → Tm (fun k => foC d LF τ k) (ZPo b u tb.length N mk zF (fun r _ τ => S1W T n b u al gl Pc Vm tb o mk N q v w st lo qh (bdO o v) r τ) σ n1 n2)) : Tm (fun k => f_F3 k d 1 0 L σ) (ZPo b u tb.length N mk zF (fun r _ τ => S1W T n b u al gl Pc Vm tb o mk N q v w st lo qh (bdO o v) r τ) σ 0 0) := by
  have s0 := Zy_N h zf hbg
  have u41 := cx.2.2.1
  have n10 := cx.1.2.2.2.2
  obtain ⟨bd1, bd2, bd3, bd4⟩ := bd
  have i42 : ¬ (nI u < 0 ∨ 42 ≤ (nI u).toNatClampNeg) := u_in (by rw [u_n (by omega)]; omega) (by decide)
  have e03 : σ.1 4003 = nI u := h.2.2.2.2.1.2.1
  have go := tk_go h
  have g1 := go.2.2 h25
  have v60 : v ≤ 60 := h.2.2.2.2.2.2.1.2
  refine Tm_suc (fun k => fr1_0 k _ _ _) ?_
  refine Tm_oP (Zy_pp s0) (Tm_oP (Zy_pp s0) ?_)
  refine Tm_chk (by rw [e03]; exact i42) ?_
  refine zt_opens (C := True) s0 (Or.inr ⟨⟨ho, w1⟩, trivial⟩) (fun τ1 ret1 n1 n2 _ s1 xk1 => ?_)
  refine Tm_oP (Zy_pp s1) ?_
  refine zt_emit (op := 42) s1 rfl rfl (by show N + 1 + 1 ≤ 36864; omega) (fun τ2 n3 n4 s2 xk2 => ?_)
  have s2' : Zy T n b u al σ tb.length N mk (0 + n1 + n3) (0 + n2 + n4) tb (o + 1) (tkN T n q) v mk w st lo qh N [em 0 (nI q), em 42 0] τ2 := s2
  have go2 := tk_go s2'.1.1
  have bdx : BdX n (o + 1) (tkN T n q) v mk 0 (N + 2) tb.length := ⟨n10, by omega, by omega, bd3, by omega⟩
  refine zt_callZ (C := True) s2' (c_itersF (e := 399) (N := N) (pre := [em 0 (nI q), em 42 0]) (sz := N + 2) s2'.1.1 s2'.2.2 (EvX_z cx.1.1 s2'.1.2.1) bdx bd4 (FRw_0 (Pc := Pc) (by omega)) rfl rfl rfl hG (by omega)) ?_
  cases z17 with
  | none => exact Or.inl ⟨rfl, h0 rfl⟩
  | some r =>
    refine Or.inr ⟨r, rfl, trivial, fun τ3 ret3 n5 n6 hr zk3 hc3 => ?_⟩
    obtain ⟨es, ci, w2, fi, la, xm, lm, pl, ⟨i1, i2, i3⟩, fr, ⟨p1, p2, p3⟩, ⟨e14, e15⟩, evF, ⟨bdF, w23⟩, mks, ple, ek, ln, lt⟩ := hr
    have la' : (tb ++ es).length = tb.length + es.length := List.length_append
    have s3 : Zy T n b u al σ tb.length N mk (0 + n1 + n3 + n5) (0 + n2 + n4 + n6) (tb ++ es) (o + 1) r.1 r.2.1 (mk + 3 * pl.length) w2 st lo qh N ([em 0 (nI q), em 42 0] ++ ci) τ3 := Zy_ca (ll := ci) s2' i1 zk3 hc3 i2 (by rw [la']; omega) (by omega) i3
    have go3 := tk_go s3.1.1
    have r60 : r.2.1 ≤ 60 := s3.1.1.2.2.2.2.2.2.1.2
    have lci : ([em 0 (nI q), em 42 0] ++ ci).length = ci.length + 2 := by rw [List.length_append]; show 2 + ci.length = _; omega
    have e033 : τ3.1 4003 = nI u := s3.1.1.2.2.2.2.1.2.1
    have wb := fr.1.1
    have kd : τ3.2.2.1 (pR18 b) (τ3.1 4003).toNatClampNeg - σ.2.2.1 (pR18 b) (σ.1 4003).toNatClampNeg = nI (w2 - w) := by
      rw [e033, e03, n_cl (p := u) (by omega), i3.1, zf.1, n_sub (by omega) (by omega)]
    have cn : (nI (N + 1)).toNatClampNeg = N + 1 := n_cl (by omega)
    have key : uA τ3 (pR0 (sKd τ3 b)) (nI (N + 1)).toNatClampNeg (42 ||| ((τ3.2.2.1 (pR18 b) (τ3.1 4003).toNatClampNeg - σ.2.2.1 (pR18 b) (σ.1 4003).toNatClampNeg) <<< ((8 : Int32) &&& 31))) = uA τ3 (pR0 (sKd τ3 b)) (N + 1) (em 42 (nI (w2 - w))) := by
      rw [kd, cn]; rfl
    have s4 := Zy_set (hp := 1) s3 (Nat.le_refl _) (by rw [lci]; omega) (em 42 (nI (w2 - w)))
    refine Tm_oP (Zy_pp s3) ?_
    refine Tm_chk (by rw [e033]; exact i42) ?_
    refine Tm_oP (Zy_pp s3) ?_
    refine Tm_chk (Zy_in (hp := 1) s3 (by rw [lci]; omega)) ?_
    have hs' := hs r rfl
    unfold foC at hs'
    refine hs' _ _ _ _ ⟨es, ([em 0 (nI q), em 42 0] ++ ci).set 1 (em 42 (nI (w2 - w))), [em 0 (nI q), em 42 0] ++ ci, w2, fi, la, xm, lm, pl, ?_, fr, ⟨List.length_set, ?_, fun j hj hn => ?_⟩, ⟨p3, p1, p2, w23⟩, ple, fun j hj => ?_, ⟨?_, by omega⟩, evF.1, fun j hj => ?_, ⟨bdF.2.2.2.1, bdF.2.2.1⟩, ⟨h.2.2.2.1.1, h.2.2.1.1, ?_⟩, kd, e14, e15⟩ rfl
    · show Zy T n b u al σ tb.length N mk _ _ (tb ++ es) (o + 1) r.1 r.2.1 (mk + 3 * pl.length) w2 st lo qh N _ (uA τ3 (pR0 (sKd τ3 b)) (nI (N + 1)).toNatClampNeg (42 ||| ((τ3.2.2.1 (pR18 b) (τ3.1 4003).toNatClampNeg - σ.2.2.1 (pR18 b) (σ.1 4003).toNatClampNeg) <<< ((8 : Int32) &&& 31))))
      rw [key]; exact s4
    · rw [gd_set, if_pos ⟨rfl, by rw [lci]; omega⟩]
    · rw [gd_set, if_neg (fun z => hn z.1)]
    · show (uA τ3 (pR0 (sKd τ3 b)) _ _).2.2.1 41 (mk + j) = _
      rw [uA_k (by rcases pR0_c (sKd τ3 b) with y | y <;> omega)]; exact mks j hj
    · rw [List.length_set, lci]; omega
    · rw [la'] at hj
      by_cases z : j < tb.length
      · rw [gE_l z]; exact cx.1.2.2.2.1 j z
      · have y := gE_r (a := tb) (c := es) (j - tb.length)
        rw [show tb.length + (j - tb.length) = j by omega] at y
        rw [y, ek _ (by omega)]; decide
    · show σ.2.2.1 (pR18 b) (σ.1 4003).toNatClampNeg = _
      rw [e03, n_cl (p := u) (by omega)]; exact zf.1
end CYJ
