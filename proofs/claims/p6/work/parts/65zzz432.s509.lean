/-! The class: prints are read; one statement of any kind is read. -/
section CXY
variable {σ σ' σ0 τ τ' τ0 : CS} {L : LV} {b : Bool} {T : Nat → Int32} {n q q' u al o v mk mk' p sz sz' szB szE nc nc0 sz0 mk0 a1 a2 m kk f e s0 ow a t0 g D w st w' st' M nm deep vv np lp N Bd ns nb k d P h st0 b0 it : Nat} {y qh qh' y0 y1 wd x0 x1 x3 : Int32} {l l' cs cs' cs2 ll lt lt0 co bo : List Int32} {tb : List Ent} {E : En} {gl : Nat × (Nat → Nat → Prop)} {Vm : Nat → Prop} {Pc : Nat → Nat → Prop} {MD : Nat → Nat → Nat} {md : Nat → Nat} {bt : BT} {ks qs qs' qa qb js es qsI : List Nat} {lo lo' : Option Nat} {s : SB}
/-- print( .. ) up to its closing, as a piece: the rest of block 6 -/
theorem c_printS {x : Option RT} (h : QS T n b u al tb o q v mk 0 (N + 1) σ) (zf : ZF b u w st lo qh σ) (hbg : cdr b σ N = em 0 (nI q)) (sx : StX n E b u al gl Vm Pc MD tb σ) (bd : BdS n o q v mk (N + 1) tb.length) (hk : tkK T n q = 52) (hG : gT T n q (fun q1 => gP0 T n f E o 52 q1 v bt) = some x) : Tm (fun k => f_F3 k d 4 6 L σ) (ZPo b u tb.length N mk (seZ T n ((zq x).map (fun r => (r.1, r.2, st)))) (fun r _ τ => S1T T n b u al gl Pc Vm tb o mk N q v w st lo qh Bd r τ) σ 0 0) := by
  have s0 := Zy_N h zf hbg
  have go := tk_go h
  have g1 := go.2.2 (by omega)
  obtain ⟨bd1, bd2, bd3⟩ := bd
  obtain ⟨ev, pr, pe, n3, n10⟩ := sx
  refine Tm_suc (fun k => st_6 k _ _ _) ?_
  rcases gT_any hG with ⟨w1, w2⟩ | ⟨w1, w2⟩
  · rw [w2]
    exact zt_adv (C := False) s0 (Or.inl ⟨w1, rfl⟩) (fun _ _ _ _ c _ _ => c.elim)
  refine zt_adv (C := True) s0 (Or.inr ⟨w1, trivial⟩) (fun τ1 ret1 n1 n2 _ s1 xk1 => ?_)
  have go1 := tk_go s1.1.1
  unfold gP0 at w2
  rw [if_neg (by decide), if_pos rfl] at w2
  by_cases k6 : tkK T n (tkN T n q) = 6
  case neg =>
    rw [if_neg k6] at w2
    rw [← Option.some.inj w2]
    exact zt_want (kk := 6) (C := False) s1 (by decide) rfl (Or.inl ⟨k6, rfl⟩) (fun _ _ _ c _ => c.elim)
  rw [if_pos k6] at w2
  have g2 := go1.2.2 (by omega)
  refine zt_want (kk := 6) (C := True) s1 (by decide) rfl (Or.inr ⟨k6, trivial⟩) (fun ret2 n3' n4 _ s2 => ?_)
  rcases gO_any w2 with ⟨w3, w4⟩ | ⟨w3, w4⟩
  · rw [w4]
    exact zt_opens (C := False) s2 (Or.inl ⟨fun z => z.1 w3, rfl⟩) (fun _ _ _ _ c _ _ => c.elim)
  rcases gT_any w4 with ⟨w5, w6⟩ | ⟨w5, w6⟩
  · rw [w6]
    exact zt_opens (C := False) s2 (Or.inl ⟨fun z => z.2 w5, rfl⟩) (fun _ _ _ _ c _ _ => c.elim)
  refine zt_opens (C := True) s2 (Or.inr ⟨⟨w3, w5⟩, trivial⟩) (fun τ3 ret3 n5 n6 _ s3 xk3 => ?_)
  refine Tm_oP (Zy_pp s3) ?_
  have go3 := tk_go s3.1.1
  have ev3 := EvX_z ev s3.1.2.1
  have bdx : BdX n (o + 1) (tkN T n (tkN T n q)) v mk 0 (N + [em 0 (nI q)].length) tb.length := ⟨n10, by show 2 * (N + 1) + _ + _ ≤ _; omega, by omega, bd3, by omega⟩
  rcases gb_any w6 with ⟨w7, w8⟩ | ⟨r, w7, w8⟩
  · rw [w8]
    exact zt_call (C := True) s3 (c_expsP (e := 399) (fun f' _ => px_all f' 399) s3.1.1 ev3 bdx w7 (by omega)) (Or.inl ⟨rfl, rfl⟩)
  refine zt_call (C := True) s3 (c_expsP (e := 399) (fun f' _ => px_all f' 399) s3.1.1 ev3 bdx w7 (by omega)) (Or.inr ⟨r, rfl, trivial, fun τ4 ret4 n7 n8 hr xk4 hc4 => ?_⟩)
  obtain ⟨c, co, ec, r1, r2, sg, ln, lt, lv⟩ := hr
  have s4 := Zy_cl s3 r1 xk4 hc4 r2 s3.1.2.2.2.1 s3.1.2.2.2.2.2
  have go4 := tk_go s4.1.1
  have lco : ([em 0 (nI q)] ++ co).length = co.length + 1 := by rw [List.length_append]; show 1 + co.length = _; omega
  have cl := sg.1
  rw [ec]
  refine zt_emit (op := 208) s4 rfl rfl (by rw [lco]; omega) (fun τ5 n9 n10' s5 xk5 => ?_)
  have s5' : Zy T n b u al σ tb.length N mk (0 + n1 + n3' + n5 + n7 + n9) (0 + n2 + n4 + n6 + n8 + n10') tb (o + 1) r.1 r.2.1 mk w st lo qh N ([em 0 (nI q)] ++ co ++ [em 208 (nI c)]) τ5 := s5
  have ea : [em 0 (nI q)] ++ co ++ [em 208 (nI c)] = em 0 (nI q) :: (co ++ [em 208 (nI c)]) := by rw [List.append_assoc]; rfl
  rw [ea] at s5'
  have ll2 : (co ++ [em 208 (nI c)]).length = co.length + 1 := by rw [List.length_append]; rfl
  have ty : Sse u gl Pc Vm [] 0 0 0 (co ++ [em 208 (nI c)]) := by
    have z := Sst_sg (Pc := Pc) (pre := []) sg 0
    have z2 := Sse_i (pre := []) (Is_pt (u := u) (gl := gl) (Pc := Pc) (Vm := Vm) (pre := []) (n := 0) (k := c) (by omega)) (Nat.le_refl _) (by omega)
    exact Sse_seq z z2 (by omega)
  rcases gW_any w8 with ⟨w9, wa⟩ | ⟨w9, wa⟩
  · rw [wa]
    exact zt_closes (kk := 7) (C := False) s5' (by decide) rfl (Or.inl ⟨w9, rfl⟩) (fun _ _ _ _ c _ _ => c.elim)
  refine zt_closes (kk := 7) (C := True) s5' (by decide) rfl (Or.inr ⟨w9, trivial⟩) (fun τ6 ret6 m1 m2 _ s6 xk6 => ?_)
  have go6 := tk_go s6.1.1
  have g6 := go4.2.2 (by omega)
  rw [← Option.some.inj wa]
  show Tm (fun k => f_F3 k d 4 8 L τ6) (ZPo b u tb.length N mk (if tkK T n (tkN T n r.1) = 13 ∧ ¬ tkK T n (tkN T n (tkN T n r.1)) = 0 then some (tkN T n (tkN T n r.1), r.2.1, st) else none) _ σ _ _)
  refine Tm_suc (fun k => st_8 k _ _ _) ?_
  by_cases k13 : tkK T n (tkN T n r.1) = 13 ∧ ¬ tkK T n (tkN T n (tkN T n r.1)) = 0
  · rw [if_pos k13]
    have g7 := go6.2.2 (by omega)
    refine zt_expect (kk := 13) (C := True) s6 (by decide) rfl (Or.inr ⟨k13, trivial⟩) (fun τ7 ret7 m3 m4 _ s7 xk7 => ?_)
    refine Tm_some (Zfin s7 ⟨_, [], 1, s7.1.1, s7.2.1, s7.2.2, Stm_s ty (by omega) (by omega), trivial, ⟨?_, by show 1 + st ≤ st + 1; omega, Nat.zero_le _⟩, ?_, lv⟩)
    · rw [List.length_cons, ll2]
      show 2 * (co.length + 1 + 1) ≤ 7 * (tkN T n (tkN T n r.1) - q)
      omega
    · show q < tkN T n (tkN T n r.1)
      omega
  · rw [if_neg k13]
    exact zt_expect (kk := 13) (C := False) s6 (by decide) rfl (Or.inl ⟨k13, rfl⟩) (fun _ _ _ _ c _ _ => c.elim)
/-- what checkStatement refuses, as the grammar has it -/
def BadG (k o lp : Nat) (E : En) : Prop := (isOp k ∧ o = 20) ∨ ((k = 49 ∨ k = 50) ∧ lp = 0) ∨ (k = 51 ∧ E.2.2.2.1 = 0)
/-- a statement of any kind -/
def gXs (T : Nat → Int32) (n f : Nat) (MD : Nat → Nat → Nat) (E : En) (lp o q v : Nat) (b : BT) (s : SB) : SR := if tkK T n q = 26 then lb (gBg T n f MD E o q v b) (lif s) else if tkK T n q = 10 then lb (gPa T n f E o q v b) (lif s) else if tkK T n q = 39 then GS T n MD f 2 E lp o q v 0 0 0 b s else if tkK T n q = 43 then GS T n MD f 4 E lp o q v 0 0 0 b s else if tkK T n q = 45 then GS T n MD f 5 E lp o q v 0 0 0 b s else lb (gSm T n f lp E o q v b) (lif s)
def P1k (T : Nat → Int32) (n : Nat) (b : Bool) (u al : Nat) (MD : Nat → Nat → Nat) (f : Nat) : Prop := ∀ (E : En) (lp o q v : Nat) (bt : BT) (s : SB) (y : Option ST), q ≤ n → v ≤ 60 → s.1 ≤ 400 → 1 ≤ bt.1 → isSt (tkK T n q) → ¬ BadG (tkK T n q) o lp E → gXs T n f MD E lp o q v bt s = some y → ∃ z : Option (Nat × Nat × Nat), SeT y z ∧ ∀ (d : Nat) (gl : Nat × (Nat → Nat → Prop)) (Pc : Nat → Nat → Prop) (Vm : Nat → Prop) (tb : List Ent) (mk N w : Nat) (lo : Option Nat) (qh : Int32) (σ : CS) (L : LV), QS T n b u al tb o q v mk 0 (N + 1) σ → ZF b u w s.1 lo qh σ → cdr b σ N = em 0 (nI q) → CxS n E b u al gl Vm Pc MD tb lp lo σ → BdB n o q v mk N w tb.length → 4 * (20 - o) ≤ d → L.1 1 = nI N → Tm (fun k => f_F3 k d 4 0 L σ) (ZPo b u tb.length N mk z (fun r _ τ => S1T T n b u al gl Pc Vm tb o mk N q v w s.1 lo qh (bdO o v) r τ) σ 0 0)
theorem c_stmt (p2 : PSk T n b u al MD f 2 2) (p4 : PSk T n b u al MD f 4 5) (p5 : PSk T n b u al MD f 5 1) : P1k T n b u al MD f := by
  intro E lp o q v bt s y hq hv hs hB1 hst hbad hG
  unfold gXs at hG
  have ck : ∀ {tb : List Ent} {mk sz : Nat} {σ : CS}, QS T n b u al tb o q v mk 0 sz σ → ∀ j, tkV j → (σ.1 3702 = cKd j ↔ tkK T n q = j) := fun h j hj => lx_k h hj
  by_cases k26 : tkK T n q = 26
  · rw [if_pos k26] at hG
    obtain ⟨x, hx, hl⟩ := lb_S hG
    obtain ⟨z0, hz, sm⟩ := gBg_0 hx
    refine ⟨_, SeT_of (Sem_S sm hl), fun d gl Pc Vm tb mk N w lo qh σ L h zf hbg cx bd hd l1 => ?_⟩
    have n10 := cx.1.2.2.2.2
    obtain ⟨bd1, bd2, bd3, bd4⟩ := bd
    refine Tm_suc (fun k => st_0 k _ _ _) ?_
    refine Tm_yes ((ck h 26 (by decide)).2 k26) ?_
    refine Tm_suc (fun k => st_1 k _ _ _) ?_
    exact st_fin (st_one hbg (by omega) (c_nameSt h zf cx.1 ⟨by omega, bd2, bd3⟩ k26 hz))
  rw [if_neg k26] at hG
  by_cases k10 : tkK T n q = 10
  · rw [if_pos k10] at hG
    obtain ⟨x, hx, hl⟩ := lb_S hG
    obtain ⟨z0, hz, sm⟩ := gPa_0 hx
    refine ⟨_, SeT_of (Sem_S sm hl), fun d gl Pc Vm tb mk N w lo qh σ L h zf hbg cx bd hd l1 => ?_⟩
    have n10 := cx.1.2.2.2.2
    obtain ⟨bd1, bd2, bd3, bd4⟩ := bd
    refine Tm_suc (fun k => st_0 k _ _ _) ?_
    refine Tm_no (fun z => k26 ((ck h 26 (by decide)).1 z)) (Tm_yes ((ck h 10 (by decide)).2 k10) ?_)
    refine Tm_suc (fun k => st_2 k _ _ _) ?_
    refine st_fin (st_one hbg (by omega) (Tm_mono (c_holes (Pc := Pc) h cx.1.1 cx.1.2.2.2.1 n10 bd2 (by omega) bd3 k10 hz) (fun r hr => ?_)))
    have hr' := ZPo_of hr
    exact ⟨fun t e => ⟨(hr.1 t e).1, (hr.1 t e).2, ZF_k zf hr.2.2.2.2⟩, hr'.2⟩
  rw [if_neg k10] at hG
  have e1 : ∀ d : Nat, 4 * (20 - o) ≤ d → ¬ o = 20 → o ≤ 20 → ∃ d1, d = d1 + 1 ∧ 4 * (20 - o) ≤ d1 + 1 := fun d h1 h2 h3 => ⟨d - 1, by omega, by omega⟩
  by_cases k39 : tkK T n q = 39
  · rw [if_pos k39] at hG
    have ho : ¬ o = 20 := fun z => hbad (Or.inl ⟨Or.inl k39, z⟩)
    obtain ⟨z, sm, run⟩ := p2 E lp o q v 0 0 0 bt s y hq hv hs hB1 ho (by omega) hG
    refine ⟨_, SeT_of sm, fun d gl Pc Vm tb mk N w lo qh σ L h zf hbg cx bd hd l1 => ?_⟩
    obtain ⟨d1, ed, hd1⟩ := e1 d hd ho h.2.2.2.2.2.1.2
    subst ed
    refine Tm_suc (fun k => st_0 k _ _ _) ?_
    refine Tm_no (fun z => k26 ((ck h 26 (by decide)).1 z)) (Tm_no (fun z => k10 ((ck h 10 (by decide)).1 z)) (Tm_yes ((ck h 39 (by decide)).2 k39) ?_))
    refine Tm_suc (fun k => st_3 k _ _ _) ?_
    refine Tm_d ?_
    exact st_fin (d := d1 + 1) (L := L) (run d1 gl Pc Vm tb mk N w lo qh σ lZ h zf hbg cx bd hd1 (fun z => absurd z (by decide)))
  rw [if_neg k39] at hG
  by_cases k43 : tkK T n q = 43
  · rw [if_pos k43] at hG
    have ho : ¬ o = 20 := fun z => hbad (Or.inl ⟨Or.inr (Or.inl k43), z⟩)
    obtain ⟨z, sm, run⟩ := p4 E lp o q v 0 0 0 bt s y hq hv hs hB1 ho (by omega) hG
    refine ⟨_, SeT_of sm, fun d gl Pc Vm tb mk N w lo qh σ L h zf hbg cx bd hd l1 => ?_⟩
    obtain ⟨d1, ed, hd1⟩ := e1 d hd ho h.2.2.2.2.2.1.2
    subst ed
    refine Tm_suc (fun k => st_0 k _ _ _) ?_
    refine Tm_no (fun z => k26 ((ck h 26 (by decide)).1 z)) (Tm_no (fun z => k10 ((ck h 10 (by decide)).1 z)) (Tm_no (fun z => k39 ((ck h 39 (by decide)).1 z)) (Tm_yes ((ck h 43 (by decide)).2 k43) ?_)))
    refine Tm_suc (fun k => st_4 k _ _ _) ?_
    refine Tm_d ?_
    exact st_fin (d := d1 + 1) (L := L) (run d1 gl Pc Vm tb mk N w lo qh σ _ h zf hbg cx bd hd1 (fun _ => l1))
  rw [if_neg k43] at hG
  by_cases k45 : tkK T n q = 45
  · rw [if_pos k45] at hG
    have ho : ¬ o = 20 := fun z => hbad (Or.inl ⟨Or.inr (Or.inr (Or.inl k45)), z⟩)
    obtain ⟨z, sm, run⟩ := p5 E lp o q v 0 0 0 bt s y hq hv hs hB1 ho (by omega) hG
    refine ⟨_, SeT_of sm, fun d gl Pc Vm tb mk N w lo qh σ L h zf hbg cx bd hd l1 => ?_⟩
    obtain ⟨d1, ed, hd1⟩ := e1 d hd ho h.2.2.2.2.2.1.2
    subst ed
    refine Tm_suc (fun k => st_0 k _ _ _) ?_
    refine Tm_no (fun z => k26 ((ck h 26 (by decide)).1 z)) (Tm_no (fun z => k10 ((ck h 10 (by decide)).1 z)) (Tm_no (fun z => k39 ((ck h 39 (by decide)).1 z)) (Tm_no (fun z => k43 ((ck h 43 (by decide)).1 z)) (Tm_yes ((ck h 45 (by decide)).2 k45) ?_))))
    refine Tm_suc (fun k => st_5 k _ _ _) ?_
    refine Tm_d ?_
    exact st_fin (d := d1 + 1) (L := L) (run d1 gl Pc Vm tb mk N w lo qh σ lZ h zf hbg cx bd hd1 (fun z => absurd z (by decide)))
  rw [if_neg k45] at hG
  have kr : 49 ≤ tkK T n q ∧ tkK T n q ≤ 56 := by
    rcases hst with z | z | z | z | z | z
    · exact absurd z k26
    · exact absurd z k10
    · exact absurd z k39
    · exact absurd z k43
    · exact absurd z k45
    · exact z
  obtain ⟨x, hx, hl⟩ := lb_S hG
  rcases gSm_0 hx kr with ⟨bb, e⟩ | ⟨nb, z0, hz, sm⟩
  · rw [e] at hl
    refine ⟨none, Or.inl ⟨rfl, (Option.some.inj hl).symm⟩, fun d gl Pc Vm tb mk N w lo qh σ L h zf hbg cx bd hd l1 => ?_⟩
    exfalso
    have e1 := cx.2.1
    have e2 := cx.2.2.1
    rcases bb with bb | ⟨bb1, bb2 | bb2⟩
    · exact hbad (Or.inr (Or.inl bb))
    · exact hbad (Or.inr (Or.inr ⟨bb1, bb2⟩))
    · omega
  refine ⟨_, SeT_of (Sem_S sm hl), fun d gl Pc Vm tb mk N w lo qh σ L h zf hbg cx bd hd l1 => ?_⟩
  have n10 := cx.1.2.2.2.2
  obtain ⟨bd1, bd2, bd3, bd4⟩ := bd
  have bds : BdS n o q v mk (N + 1) tb.length := ⟨by omega, bd2, bd3⟩
  refine Tm_suc (fun k => st_0 k _ _ _) ?_
  refine Tm_no (fun z => k26 ((ck h 26 (by decide)).1 z)) (Tm_no (fun z => k10 ((ck h 10 (by decide)).1 z)) (Tm_no (fun z => k39 ((ck h 39 (by decide)).1 z)) (Tm_no (fun z => k43 ((ck h 43 (by decide)).1 z)) (Tm_no (fun z => k45 ((ck h 45 (by decide)).1 z)) ?_))))
  by_cases k52 : tkK T n q = 52
  · refine Tm_yes ((ck h 52 (by decide)).2 k52) ?_
    rw [k52] at hz
    exact c_printS h zf hbg cx.1 bds k52 hz
  refine Tm_no (fun z => k52 ((ck h 52 (by decide)).1 z)) ?_
  refine Tm_suc (fun k => st_7 k _ _ _) ?_
  have hl' : tkK T n q = 49 ∨ tkK T n q = 50 → ∃ P0, lo = some P0 := fun z => by
    cases lo with
    | none => exact absurd (Or.inr (Or.inl ⟨z, cx.2.2.2.1.2 rfl⟩)) hbad
    | some P0 => exact ⟨P0, rfl⟩
  refine st_fin (Tm_mono (c_plain (Bd := bdO o v) h zf cx.1 bds ⟨kr.1, kr.2, k52⟩ hl' (fun z y => hbad (Or.inr (Or.inr ⟨z, by rw [cx.2.1]; exact y⟩))) (by omega) hz) (fun r hr => ZPo_m hr (Nat.le_add_right _ _) (fun t y τ ht zk => ?_)))
  refine S1W_of ht ?_
  rw [(zk.2.2.2.2.2.1 N (by omega)).1]
  exact hbg
end CXY
