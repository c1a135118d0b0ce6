/-! The class: what stands in brackets, primaries. -/
section CVZ
variable {σ σ' σ0 τ τ' : CS} {L : LV} {b : Bool} {T : Nat → Int32} {n q q' u al o v mk p sz szB nc0 sz0 mk0 a1 a2 m kk f e t : Nat} {y w : Int32} {l l' cs cs' : List Int32} {tb : List Ent} {α : Type} {S : α → Int32 → CS → Prop} {C : Prop} {E : En} {gl : Nat × (Nat → Nat → Prop)} {Vm : Nat → Prop} {bt : BT}
theorem gFm_b (tu : Nat) (k : RT → RG) : gb (gFm T n f E o q v tu bt) k = gT T n q (fun q2 => gb (G T n f 17 E o q2 v 0 0 E.2.2.1.length 0 bt) (fun r =>
  if tkK T n r.1 = 15 then gT T n r.1 (fun q3 => gb (G T n f 0 (seeN E r.2.2.2.2.2) o q3 r.2.1 0 0 0 0 r.2.2.2.2.1) (fun s => gW T n 14 s.1 (fun q4 => gb (G T n f 0 (seeN E r.2.2.2.2.2) o q4 s.2.1 0 0 0 0 s.2.2.2.2.1) (fun t => k (t.1, t.2.1, 0, t.2.2.2.2.1.1, bWrap t.2.2.2.2.1 13 (if tu = 8 then 1 else 0) (hd r.2.2.2.1) (nI s.2.2.2.1) (nI t.2.2.2.1), [])))))
  else gW T n 14 r.1 (fun q4 => gb (G T n f 0 (seeN E r.2.2.2.2.2) o q4 r.2.1 0 0 0 0 r.2.2.2.2.1) (fun t => k (t.1, t.2.1, 0, t.2.2.2.2.1.1, bWrap t.2.2.2.2.1 13 (if tu = 8 then 1 else 0) (hd r.2.2.2.1) (-1) (nI t.2.2.2.1), []))))) := by
  unfold gFm
  rw [gb_gT]
  refine congrArg (gT T n q) (funext (fun q2 => ?_))
  rw [gb_gb]
  refine congrArg (gb (G T n f 17 E o q2 v 0 0 E.2.2.1.length 0 bt)) (funext (fun r => ?_))
  by_cases c : tkK T n r.1 = 15
  · rw [if_pos c, if_pos c, gb_gT]
    refine congrArg (gT T n r.1) (funext (fun q3 => ?_))
    rw [gb_gb]
    refine congrArg (gb _) (funext (fun s => ?_))
    rw [gb_gW]
    refine congrArg (gW T n 14 s.1) (funext (fun q4 => ?_))
    rw [gb_gb]
    rfl
  · rw [if_neg c, if_neg c, gb_gW]
    refine congrArg (gW T n 14 r.1) (funext (fun q4 => ?_))
    rw [gb_gb]
    rfl
/-- behind an operand that is no variable, from its code since the beginning -/
theorem XN_of {r : RT} (s : Sy T n b u al σ0 nc0 sz0 mk0 a1 a2 tb o r.1 r.2.1 mk p sz cs τ) (sg : Sgm u p gl Vm 1 cs) (ln : 2 * cs.length ≤ 3 * (r.1 - q) + 1) (lt : q < r.1) (lv : v ≤ r.2.1) (h0 : r.2.2.1 = 0) : XN T n b u al gl Vm tb o mk p sz q v r τ := ⟨cs, s.1.1, s.2, sg, ln, lt, lv, h0⟩
theorem gOT_any {k : Nat → RG} {x : Option RT} (h : gO o (gT T n q k) = some x) : (¬ (¬ o = 20 ∧ ¬ tkK T n (tkN T n q) = 0) ∧ x = none) ∨ ((¬ o = 20 ∧ ¬ tkK T n (tkN T n q) = 0) ∧ k (tkN T n q) = some x) := by
  rcases gO_any h with ⟨w1, w2⟩ | ⟨w1, w2⟩
  · exact Or.inl ⟨fun z => z.1 w1, w2⟩
  · rcases gT_any w2 with ⟨w3, w4⟩ | ⟨w3, w4⟩
    · exact Or.inl ⟨fun z => z.2 w3, w4⟩
    · exact Or.inr ⟨⟨w1, w3⟩, w4⟩
theorem cl_k (h : tkK T n q = 8 ∨ tkK T n q = 10) : tkV (tkK T n q + 1) := by omega
theorem gb_some {x : RG} {k : RT → RG} {y : Option RT} (h : gb x k = some y) : ∃ z, x = some z := by
  rcases gb_any h with ⟨y1, _⟩ | ⟨r4, y1, _⟩
  · exact ⟨_, y1⟩
  · exact ⟨_, y1⟩
theorem rwo_0 (k d : Nat) (L : LV) (σ : CS) : f_F2 (k + 1) d 12 0 L σ = (ox (f_X5_opens k 0 lZ σ) (fun r1 => if ((r1.2.1.1 3702)) = 45 then (of d (fun e3 => ox (f_F2 k e3 3 0 (lI lZ 1 ((L.1 2))) r1.2.1) (fun r3 => f_F2 k d 12 2 L r3.2.1))) else (f_F2 k d 12 1 L r1.2.1))) := rfl
theorem rwo_1 (k d : Nat) (L : LV) (σ : CS) : f_F2 (k + 1) d 12 1 L σ = (if ((σ.1 3702)) = ((L.1 1)) then (oP (sPp σ) (fun b2 => ox (f_X7_emit__P k 0 (lI (lI (lB lZ 0 b2) 1 ((48 + ((L.1 2))))) 2 0) σ) (fun r3 => f_F2 k d 12 2 L r3.2.1))) else (f_F2 k d 12 3 L σ)) := rfl
theorem rwo_2 (k d : Nat) (L : LV) (σ : CS) : f_F2 (k + 1) d 12 2 L σ = (ox (f_X5_closes k 0 (lI lZ 1 ((L.1 1))) σ) (fun r1 => some ((0, 0), r1.2.1, (0, 0)))) := rfl
theorem rwo_3 (k d : Nat) (L : LV) (σ : CS) : f_F2 (k + 1) d 12 3 L σ = (of d (fun e1 => ox (f_F2 k e1 1 0 (lI lZ 1 0) σ) (fun r1 => if ((r1.2.1.1 3702)) = 28 then (ox (f_X2_advance k 0 lZ r1.2.1) (fun r3 => of d (fun e4 => ox (f_F2 k e4 1 0 (lI lZ 1 0) r3.2.1) (fun r4 => oP (sPp r4.2.1) (fun b5 => ox (f_X7_emit__P k 0 (lI (lI (lB lZ 0 b5) 1 ((50 + ((L.1 2))))) 2 0) r4.2.1) (fun r6 => f_F2 k d 12 2 L r6.2.1)))))) else (f_F2 k d 12 4 L r1.2.1)))) := rfl
theorem rwo_4 (k d : Nat) (L : LV) (σ : CS) : f_F2 (k + 1) d 12 4 L σ = (of d (fun e1 => ox (f_F2 k e1 6 0 (lI lZ 1 ((L.1 2))) σ) (fun r1 => f_F2 k d 12 2 L r1.2.1))) := rfl
theorem c_row {tt g : Nat} {bt1 : BT} {e3 : RT → RT → Nat} {bt3 : RT → RT → BT} {x : Option RT} (px : ∀ f', f' ≤ f → ∀ e', PXp T n b u al f' e') (h : QS T n b u al tb o q v mk p sz σ) (ev : EvX E b u al gl Vm tb σ) (bd : BdX n o q v mk p sz tb.length) (hk : tkK T n q = 8 ∨ tkK T n q = 10) (ht : tt = 0 ∨ tt = 1) (l1 : L.1 1 = cKd (tkK T n q + 1)) (l2 : L.1 2 = nI tt) (hG : gO o (gT T n q (fun q1 => if tkK T n q1 = tkK T n q + 1 then gT T n q1 (fun q2 => some (some (q2, v, 0, bt.1, bt1, []))) else if tkK T n q1 = 45 then gb (gFm T n f E (o + 1) q1 v (tkK T n q) bt) (fun t => gW T n (tkK T n q + 1) t.1 (fun q5 => some (some (q5, t.2.1, 0, t.2.2.2.1, t.2.2.2.2.1, [])))) else gb (G T n f 0 E (o + 1) q1 v 0 0 0 0 bt) (fun r => if tkK T n r.1 = 16 then gT T n r.1 (fun q2 => gb (G T n f 0 E (o + 1) q2 r.2.1 0 0 0 0 r.2.2.2.2.1) (fun s => gW T n (tkK T n q + 1) s.1 (fun q3 => some (some (q3, s.2.1, 0, e3 r s, bt3 r s, []))))) else gb (G T n f 15 E (o + 1) r.1 r.2.1 r.2.2.2.1 r.2.2.2.1 1 g r.2.2.2.2.1) (fun s => gW T n (tkK T n q + 1) s.1 (fun q3 => some (some (q3, s.2.1, 0, s.2.2.2.1, s.2.2.2.2.1, []))))))) = some x) (hd0 : ¬ o = 20 → 6 * (20 - (o + 1)) + 8 ≤ e) : Tm (fun k => f_F2 k (e + 3) 12 0 L σ) (QPo b u tb.length sz mk x (fun r _ τ => XN T n b u al gl Vm tb o mk p sz q v r τ) σ 0 0) := by
  have s0 := Sy_0 h
  have go := tk_go h
  have g1 := go.2.2 (by omega)
  have b22 := bd.2.1
  have n10 := bd.1
  have kv := cl_k hk
  -- the closing bracket
  have b2 : ∀ (L' : LV) (τ : CS) (a1 a2 q1 v1 e1 : Nat) (bt1 : BT) (ca : List Int32), L'.1 1 = cKd (tkK T n q + 1) → gW T n (tkK T n q + 1) q1 (fun q5 => some (some (q5, v1, 0, e1, bt1, []))) = some x → Sy T n b u al σ tb.length sz mk a1 a2 tb (o + 1) q1 v1 mk p sz ca τ → Sgm u p gl Vm 1 ca → 2 * ca.length ≤ 3 * (q1 - q) + 3 → q < q1 → v ≤ v1 → Tm (fun k => f_F2 k (e + 3) 12 2 L' τ) (QPo b u tb.length sz mk x (fun r _ τ => XN T n b u al gl Vm tb o mk p sz q v r τ) σ a1 a2) := by
    intro L' τ a1 a2 q1 v1 e1 bt1 ca l1 hg s4 sg ln lt lv
    have go4 := tk_go s4.1.1
    refine Tm_suc (fun k => rwo_2 k _ _ _) ?_
    refine st_closes s4 kv l1 (gW_a3 hg) (fun τ5 ret5 n1 n2 c5 s5 => ?_)
    obtain ⟨kc, c5⟩ := c5
    have g5 := go4.2.2 (by omega)
    rw [← Option.some.inj c5]
    refine Tm_some (Qfin s5.1 (XN_of s5 sg ?_ ?_ lv rfl))
    · show 2 * ca.length ≤ 3 * (tkN T n q1 - q) + 1
      omega
    · show q < tkN T n q1
      omega
  refine Tm_suc (fun k => rwo_0 k _ _ _) ?_
  refine st_opens s0 (gOT_any hG) (fun τ1 ret1 m1 m2 c1 s1 => ?_)
  have o20 : ¬ o = 20 := fun z => by
    have := s1.1.1.2.2.2.2.2.1.2
    omega
  have hd1 := hd0 o20
  have go1 := tk_go s1.1.1
  have bd1 : BdX n (o + 1) (tkN T n q) v mk p (sz + 0) tb.length := BdX_g bd (by omega) go.2.1 (by omega) (Nat.le_refl _) (by omega)
  have ev1 := EvX_k ev s1.1.2.1
  by_cases k45 : tkK T n (tkN T n q) = 45
  · rw [if_neg (by omega), if_pos k45] at c1
    refine Tm_yes ((lx_k (kk := 45) s1.1.1 (by decide)).2 k45) ?_
    refine Tm_d ?_
    obtain ⟨z, hz⟩ := gb_some c1
    refine st_call (C := True) s1.1 (c_former ht l2 px s1.1.1 ev1 bd1 k45 hz hd1) ?_
    rcases gb_any c1 with ⟨y1, y2⟩ | ⟨r, y1, y2⟩
    · rw [hz] at y1
      exact Or.inl ⟨Option.some.inj y1, y2⟩
    rw [hz] at y1
    refine Or.inr ⟨r, Option.some.inj y1, trivial, fun τ3 ret3 m3 m4 hr xk3 hc3 => ?_⟩
    obtain ⟨ll, i1, i2, sg, ln, lt, lv⟩ := hr
    have s3 := Sy_ca s1 i1 xk3 hc3 i2 (Nat.le_refl _) s1.1.2.2.2.2.2
    exact b2 _ τ3 _ _ r.1 r.2.1 _ _ ll l1 y2 s3 sg (by omega) (by omega) lv
  refine Tm_no (fun z => k45 ((lx_k (kk := 45) s1.1.1 (by decide)).1 z)) ?_
  refine Tm_suc (fun k => rwo_1 k _ _ _) ?_
  by_cases kc : tkK T n (tkN T n q) = tkK T n q + 1
  · rw [if_pos kc] at c1
    refine Tm_yes ?_ ?_
    · rw [l1]; exact (lx_k s1.1.1 kv).2 kc
    refine Tm_oP (Sy_pp s1) ?_
    refine st_emit (op := 48 + tt) s1 rfl (by show nI 48 + L.1 2 = _; rw [l2]; exact tt_a ht 48 (by decide)) (by show sz + 0 + 1 ≤ _; omega) (fun τ2 x1 x2 s2 => ?_)
    have sg : Sgm u p gl Vm 1 [em (48 + tt) 0] := by
      rcases ht with z | z
      · rw [z]; exact Sgm_1 (by decide) (by decide) (It_ms (n := 0) rfl (by decide))
      · rw [z]; exact Sgm_1 (by decide) (by decide) (It_mt (n := 0) rfl (by decide))
    refine b2 _ τ2 _ _ (tkN T n q) v bt.1 bt1 [em (48 + tt) 0] l1 ?_ s2 sg (by show 2 * 1 ≤ _; omega) g1 (Nat.le_refl _)
    unfold gW
    rw [if_pos kc]
    exact c1
  rw [if_neg kc, if_neg k45] at c1
  refine Tm_no (fun z => ?_) ?_
  · rw [l1] at z; exact kc ((lx_k s1.1.1 kv).1 z)
  refine Tm_suc (fun k => rwo_3 k _ _ _) ?_
  refine Tm_d ?_
  rcases gb_any c1 with ⟨w1, w2⟩ | ⟨r0, w1, w2⟩
  · exact st_exp (C := True) (px f (Nat.le_refl _) (e + 2)) (Or.inl ⟨rfl, rfl⟩) s1 ev1 bd1 rfl (by omega) w1 (Or.inl ⟨rfl, w2⟩) (fun _ _ _ _ _ _ z => by cases z)
  refine st_exp (C := True) (px f (Nat.le_refl _) (e + 2)) (Or.inl ⟨rfl, rfl⟩) s1 ev1 bd1 rfl (by omega) w1 (Or.inr ⟨r0, rfl, trivial⟩) (fun τ2 ret2 x1 x2 r ll hz _ s2 xk sg ln lt lv tg => ?_)
  cases hz
  have go2 := tk_go s2.1.1
  have s2' : Sy T n b u al σ tb.length sz mk (0 + m1 + x1) (0 + m2 + x2) tb (o + 1) r0.1 r0.2.1 mk p sz ll τ2 := s2
  have ev2 := EvX_k ev s2'.1.2.1
  by_cases k16 : tkK T n r0.1 = 16
  · rw [if_pos k16] at w2
    have g2 := go2.2.2 (by omega)
    refine Tm_yes ((lx_k (kk := 16) s2.1.1 (by decide)).2 k16) ?_
    refine st_advY s2' (gT_any w2) (fun τ3 r3 er c3 s3 => ?_)
    refine Tm_d ?_
    rw [er]
    have bd3 : BdX n (o + 1) (tkN T n r0.1) r0.2.1 mk p (sz + ll.length) tb.length := BdX_g bd (by omega) go2.2.1 (by omega) lv (by omega)
    rcases gb_any c3 with ⟨y1, y2⟩ | ⟨r4, y1, y2⟩
    · exact st_exp (C := True) (px f (Nat.le_refl _) (e + 2)) (Or.inl ⟨rfl, rfl⟩) s3 (EvX_k ev s3.1.2.1) bd3 rfl (by omega) y1 (Or.inl ⟨rfl, y2⟩) (fun _ _ _ _ _ _ z => by cases z)
    refine st_exp (C := True) (px f (Nat.le_refl _) (e + 2)) (Or.inl ⟨rfl, rfl⟩) s3 (EvX_k ev s3.1.2.1) bd3 rfl (by omega) y1 (Or.inr ⟨r4, rfl, trivial⟩) (fun τ5 ret5 p1 p2 r5 l5 hz5 _ s5 xk5 sg5 ln5 lt5 lv5 tg5 => ?_)
    cases hz5
    have q5n := (tk_go s5.1.1).1
    refine Tm_oP (Sy_pp s5) ?_
    have la : (ll ++ l5).length = ll.length + l5.length := List.length_append
    refine st_emit (op := 50 + tt) s5 rfl (by show nI 50 + L.1 2 = _; rw [l2]; exact tt_a ht 50 (by decide)) (by rw [la]; omega) (fun τ6 y3 y4 s6 => ?_)
    have sg6 : Sgm u p gl Vm 1 (ll ++ l5 ++ [em (50 + tt) 0]) := by
      refine Sgm_ap (m := 2) (Sgm_seq sg sg5) (Nat.le_refl 1) (by rw [la]; show 1 ≤ _ + 1; omega) ?_
      rcases ht with z | z
      · rw [z]; exact It_ss
      · rw [z]; exact It_st
    have lb : (ll ++ l5 ++ [em (50 + tt) 0]).length = ll.length + l5.length + 1 := by rw [List.length_append, la]; rfl
    have s6' : Sy T n b u al σ tb.length sz mk (0 + m1 + x1 + p1 + y3) (0 + m2 + x2 + p2 + y4) tb (o + 1) r4.1 r4.2.1 mk p sz (ll ++ l5 ++ [em (50 + tt) 0]) τ6 := s6
    exact b2 _ τ6 _ _ r4.1 r4.2.1 _ _ _ l1 y2 s6' sg6 (by rw [lb]; omega) (by omega) (by omega)
  · rw [if_neg k16] at w2
    refine Tm_no (fun z => k16 ((lx_k (kk := 16) s2.1.1 (by decide)).1 z)) ?_
    refine Tm_suc (fun k => rwo_4 k _ _ _) ?_
    refine Tm_d ?_
    have bd3 : BdX n (o + 1) r0.1 r0.2.1 mk p (sz + ll.length) tb.length := by
      obtain ⟨d1, d2, d3, d4, d5⟩ := bd1
      exact ⟨d1, by omega, by omega, by omega, by omega⟩
    obtain ⟨z, hz⟩ := gb_some w2
    refine st_call (C := True) s2'.1 (c_members (e := e + 1) ht l2 (fun f' hf => px f' hf (e + 1)) s2'.1.1 ev2 bd3 hz (by omega)) ?_
    rcases gb_any w2 with ⟨y1, y2⟩ | ⟨r, y1, y2⟩
    · rw [hz] at y1
      exact Or.inl ⟨Option.some.inj y1, y2⟩
    rw [hz] at y1
    refine Or.inr ⟨r, Option.some.inj y1, trivial, fun τ3 ret3 m3 m4 hr xk3 hc3 => ?_⟩
    obtain ⟨l3, i1, i2, sg3, ln3, lt3, lv3⟩ := hr
    have s3 := Sy_ca s2' i1 xk3 hc3 i2 (Nat.le_refl _) s2'.1.2.2.2.2.2
    have la : (ll ++ l3).length = ll.length + l3.length := List.length_append
    exact b2 _ τ3 _ _ r.1 r.2.1 _ _ (ll ++ l3) l1 y2 s3 (sg3 ll sg) (by rw [la]; omega) (by omega) (by omega)
theorem pri_0 (k d : Nat) (L : LV) (σ : CS) : f_F2 (k + 1) d 10 0 L σ = (if ((σ.1 3702)) = (2 : Int32) then (f_F2 k d 10 1 L σ) else (if ((σ.1 3702)) = (3 : Int32) then (f_F2 k d 10 2 L σ) else (if ((σ.1 3702)) = (4 : Int32) then (f_F2 k d 10 3 L σ) else (if ((σ.1 3702)) = (10 : Int32) then (f_F2 k d 10 4 L σ) else (if ((σ.1 3702)) = (12 : Int32) then (f_F2 k d 10 5 L σ) else (if ((σ.1 3702)) = (14 : Int32) then (f_F2 k d 10 6 L σ) else (if ((σ.1 3702)) = (39 : Int32) then (f_F2 k d 10 7 L σ) else (if ((σ.1 3702)) = (60 : Int32) then (f_F2 k d 10 8 L σ) else (if ((σ.1 3702)) = (61 : Int32) then (f_F2 k d 10 8 L σ) else (if ((σ.1 3702)) = (62 : Int32) then (f_F2 k d 10 8 L σ) else (if ((σ.1 3702)) = (69 : Int32) then (f_F2 k d 10 9 L σ) else (if ((σ.1 3702)) = (70 : Int32) then (f_F2 k d 10 9 L σ) else (f_F2 k d 10 10 L σ))))))))))))) := rfl
theorem pri_1 (k d : Nat) (L : LV) (σ : CS) : f_F2 (k + 1) d 10 1 L σ = (of d (fun e1 => ox (f_F2 k e1 7 0 lZ σ) (fun r1 => some ((0, r1.1.2), r1.2.1, (0, 0))))) := rfl
theorem pri_2 (k d : Nat) (L : LV) (σ : CS) : f_F2 (k + 1) d 10 2 L σ = (ox (f_X5_number k 0 lZ σ) (fun r1 => f_F2 k d 10 11 L r1.2.1)) := rfl
theorem pri_3 (k d : Nat) (L : LV) (σ : CS) : f_F2 (k + 1) d 10 3 L σ = (ox (f_X5_string k 0 lZ σ) (fun r1 => f_F2 k d 10 11 L r1.2.1)) := rfl
theorem pri_4 (k d : Nat) (L : LV) (σ : CS) : f_F2 (k + 1) d 10 4 L σ = (ox (f_X5_opens k 0 lZ σ) (fun r1 => of d (fun e2 => ox (f_F2 k e2 1 0 (lI lZ 1 0) r1.2.1) (fun r2 => ox (f_X5_closes k 0 (lI lZ 1 11) r2.2.1) (fun r3 => f_F2 k d 10 11 L r3.2.1))))) := rfl
theorem pri_5 (k d : Nat) (L : LV) (σ : CS) : f_F2 (k + 1) d 10 5 L σ = (of d (fun e1 => ox (f_F2 k e1 12 0 (lI (lI lZ 1 13) 2 0) σ) (fun r1 => f_F2 k d 10 11 L r1.2.1))) := rfl
theorem pri_6 (k d : Nat) (L : LV) (σ : CS) : f_F2 (k + 1) d 10 6 L σ = (of d (fun e1 => ox (f_F2 k e1 12 0 (lI (lI lZ 1 15) 2 1) σ) (fun r1 => f_F2 k d 10 11 L r1.2.1))) := rfl
theorem pri_7 (k d : Nat) (L : LV) (σ : CS) : f_F2 (k + 1) d 10 7 L σ = (of d (fun e1 => ox (f_F2 k e1 0 0 lZ σ) (fun r1 => f_F2 k d 10 11 L r1.2.1))) := rfl
theorem pri_8 (k d : Nat) (L : LV) (σ : CS) : f_F2 (k + 1) d 10 8 L σ = (if ((σ.1 3702)) = 60 then (f_F2 k d 10 13 (lI L 100 ((-2147483648))) σ) else (f_F2 k d 10 12 L σ)) := rfl
theorem pri_9 (k d : Nat) (L : LV) (σ : CS) : f_F2 (k + 1) d 10 9 L σ = (of d (fun e1 => ox (f_F2 k e1 11 0 lZ σ) (fun r1 => f_F2 k d 10 11 L r1.2.1))) := rfl
theorem pri_10 (k d : Nat) (L : LV) (σ : CS) : f_F2 (k + 1) d 10 10 L σ = (of d (fun e1 => ox (f_F2 k e1 13 0 lZ σ) (fun r1 => f_F2 k d 10 11 L r1.2.1))) := rfl
theorem pri_11 (k d : Nat) (L : LV) (σ : CS) : f_F2 (k + 1) d 10 11 L σ = (some ((0, (-1)), σ, (0, 0))) := rfl
theorem pri_12 (k d : Nat) (L : LV) (σ : CS) : f_F2 (k + 1) d 10 12 L σ = (if ((σ.1 3702)) = 61 then (f_F2 k d 10 15 (lI L 100 1) σ) else (f_F2 k d 10 14 L σ)) := rfl
theorem pri_13 (k d : Nat) (L : LV) (σ : CS) : f_F2 (k + 1) d 10 13 L σ = (ox (f_X5_push k 0 (lI lZ 1 ((L.1 100))) σ) (fun r1 => ox (f_X2_advance k 0 lZ r1.2.1) (fun r2 => f_F2 k d 10 11 L r2.2.1))) := rfl
theorem pri_14 (k d : Nat) (L : LV) (σ : CS) : f_F2 (k + 1) d 10 14 L σ = (f_F2 k d 10 15 (lI L 100 0) σ) := rfl
theorem pri_15 (k d : Nat) (L : LV) (σ : CS) : f_F2 (k + 1) d 10 15 L σ = (op (y_X11_truth k 0 (lI lZ 0 ((L.1 100))) σ) (fun r1 => f_F2 k d 10 13 (lI L 100 r1.1) r1.2)) := rfl
theorem c_primary {x : Option RT} (px : ∀ f', f' ≤ f → ∀ e', PXp T n b u al f' e') (h : QS T n b u al tb o q v mk p sz σ) (ev : EvX E b u al gl Vm tb σ) (bd : BdX n o q v mk p sz tb.length) (hG : G T n (f + 1) 13 E o q v 0 0 0 0 bt = some x) (hd0 : ¬ o = 20 → 6 * (20 - (o + 1)) + 8 ≤ e) : Tm (fun k => f_F2 k (e + 4) 10 0 L σ) (QPo b u tb.length sz mk x (PmR T n b u al gl Vm tb o mk p sz q v) σ 0 0) := by
  have s0 := Sy_0 h
  have go := tk_go h
  have b22 := bd.2.1
  have n10 := bd.1
  rw [G_13] at hG
  have kn : ∀ j, tkV j → ¬ tkK T n q = j → ¬ σ.1 3702 = cKd j := fun j hj z w => z ((lx_k h hj).1 w)
  have b11 : ∀ (L' : LV) (τ : CS) (a1 a2 : Nat) (r : RT) (ca : List Int32), Sy T n b u al σ tb.length sz mk a1 a2 tb o r.1 r.2.1 mk p sz ca τ → Sgm u p gl Vm 1 ca → 2 * ca.length ≤ 3 * (r.1 - q) + 1 → q < r.1 → v ≤ r.2.1 → r.2.2.1 = 0 → Tm (fun k => f_F2 k (e + 4) 10 11 L' τ) (QPo b u tb.length sz mk (some r) (PmR T n b u al gl Vm tb o mk p sz q v) σ a1 a2) := by
    intro L' τ a1 a2 r ca s sg ln lt lv h0
    refine Tm_suc (fun k => pri_11 k _ _ _) ?_
    exact Tm_some (Qfin s.1 ⟨ca, s.1.1, s.2, sg, ln, lt, lv, Or.inl ⟨h0, rfl⟩⟩)
  -- behind a method that reads no variable
  have bx : ∀ (L' : LV) (g : Nat → Option RS), Tm g (QPo b u tb.length sz mk x (fun r _ τ => XN T n b u al gl Vm tb o mk p sz q v r τ) σ 0 0) → Tm (fun k => ox (g k) (fun r1 => f_F2 k (e + 4) 10 11 L' r1.2.1)) (QPo b u tb.length sz mk x (PmR T n b u al gl Vm tb o mk p sz q v) σ 0 0) := by
    intro L' g t
    refine st_call (C := True) s0.1 t ?_
    rcases x with _ | r
    · exact Or.inl ⟨rfl, rfl⟩
    refine Or.inr ⟨r, rfl, trivial, fun τ3 ret3 m3 m4 hr xk3 hc3 => ?_⟩
    obtain ⟨ll, i1, i2, sg, ln, lt, lv, i0⟩ := hr
    have s3 : Sy T n b u al σ tb.length sz mk (0 + m3) (0 + m4) tb o r.1 r.2.1 mk p sz ll τ3 := Sy_ca s0 i1 xk3 hc3 i2 (Nat.le_refl _) s0.1.2.2.2.2.2
    exact b11 _ τ3 _ _ r ll s3 sg ln lt lv i0
  refine Tm_suc (fun k => pri_0 k _ _ _) ?_
  by_cases k26 : tkK T n q = 26
  · rw [if_neg (by omega), if_neg (by omega), if_pos k26] at hG
    refine Tm_yes ((lx_k (kk := 26) h (by decide)).2 k26) ?_
    refine Tm_suc (fun k => pri_1 k _ _ _) ?_
    refine Tm_d ?_
    have nm : ∃ f0, f0 ≤ f ∧ gT T n q (fun q1 => if (fd E (tkS T n q)).1 = 1 then some (some (q1, v, 1, bt.1, bNode bt 7 (fd E (tkS T n q)).2.2 (nI (fd E (tkS T n q)).2.1) 0, [])) else if (fd E (tkS T n q)).1 = 2 ∧ tkK T n q1 = 6 then gO o (gT T n q1 (fun q2 => gb (G T n (f0 + 1) 14 E (o + 1) q2 v 0 0 0 0 bt) (fun r => if tkK T n r.1 = 7 ∧ r.2.2.1 = E.2.2.2.2.2.2 (fd E (tkS T n q)).2.1 then gT T n r.1 (fun q3 => some (some (q3, r.2.1, 0, r.2.2.2.2.1.1, bWrap r.2.2.2.2.1 8 (nI (fd E (tkS T n q)).2.1) (hd r.2.2.2.1) (nI r.2.2.1) (nI (o + 1)), []))) else some none))) else some none) = some x := by
      rcases f with _ | f0
      · refine ⟨0, Nat.le_refl _, ?_⟩
        rcases gT_any hG with ⟨w1, w2⟩ | ⟨w1, w2⟩
        · rw [w2]; exact if_pos w1
        refine (if_neg w1).trans ?_
        by_cases c1 : (fd E (tkS T n q)).1 = 1
        · exact (if_pos c1).trans ((if_pos c1).symm.trans w2)
        refine (if_neg c1).trans ?_
        have w2a := (if_neg c1).symm.trans w2
        by_cases c2 : (fd E (tkS T n q)).1 = 2 ∧ tkK T n (tkN T n q) = 6
        · have w2b := (if_pos c2).symm.trans w2a
          refine (if_pos c2).trans ?_
          rcases gOT_any w2b with ⟨w3, w4⟩ | ⟨w3, w4⟩
          · rw [w4]
            by_cases c3 : o = 20
            · exact if_pos c3
            · exact (if_neg c3).trans (if_pos (Classical.byContradiction (fun z => w3 ⟨c3, z⟩)))
          · exact absurd w4 (by intro z; cases z)
        · exact (if_neg c2).trans ((if_neg c2).symm.trans w2a)
      · exact ⟨f0, Nat.le_succ _, hG⟩
    obtain ⟨f0, hf0, hG0⟩ := nm
    have t := c_named (L := lZ) (fun f' hf' => px f' (by omega) e) h ev bd k26 hG0 hd0
    refine st_call (C := True) s0.1 t ?_
    rcases x with _ | r
    · exact Or.inl ⟨rfl, rfl⟩
    refine Or.inr ⟨r, rfl, trivial, fun τ3 ret3 m3 m4 hr xk3 hc3 => ?_⟩
    obtain ⟨ll, i1, i2, sg, ln, lt, lv, i0⟩ := hr
    have s3 : Sy T n b u al σ tb.length sz mk (0 + m3) (0 + m4) tb o r.1 r.2.1 mk p sz ll τ3 := Sy_ca s0 i1 xk3 hc3 i2 (Nat.le_refl _) s0.1.2.2.2.2.2
    exact Tm_some (Qfin s3.1 ⟨ll, i1, i2, sg, ln, lt, lv, i0⟩)
  refine Tm_no (kn 26 (by decide) k26) ?_
  by_cases k27 : tkK T n q = 27
  · rw [if_pos k27] at hG
    refine Tm_yes ((lx_k (kk := 27) h (by decide)).2 k27) ?_
    refine Tm_suc (fun k => pri_2 k _ _ _) ?_
    exact bx _ _ (c_numQ h bd k27 hG)
  refine Tm_no (kn 27 (by decide) k27) ?_
  rw [if_neg k27] at hG
  by_cases k28 : tkK T n q = 28
  · rw [if_pos k28] at hG
    refine Tm_yes ((lx_k (kk := 28) h (by decide)).2 k28) ?_
    refine Tm_suc (fun k => pri_3 k _ _ _) ?_
    exact bx _ _ (c_strQ h bd k28 hG)
  refine Tm_no (kn 28 (by decide) k28) ?_
  rw [if_neg k28, if_neg k26] at hG
  by_cases k6 : tkK T n q = 6
  · rw [if_pos k6] at hG
    refine Tm_yes ((lx_k (kk := 6) h (by decide)).2 k6) ?_
    have g1 := go.2.2 (by omega)
    refine Tm_suc (fun k => pri_4 k _ _ _) ?_
    refine st_opens s0 (gOT_any hG) (fun τ1 ret1 m1 m2 c1 s1 => ?_)
    have o20 : ¬ o = 20 := fun z => by
      have := s1.1.1.2.2.2.2.2.1.2
      omega
    have hd1 := hd0 o20
    refine Tm_d ?_
    have bd1 : BdX n (o + 1) (tkN T n q) v mk p (sz + 0) tb.length := BdX_g bd (by omega) go.2.1 (by omega) (Nat.le_refl _) (by omega)
    rcases gb_any c1 with ⟨w1, w2⟩ | ⟨r0, w1, w2⟩
    · exact st_exp (C := True) (px f (Nat.le_refl _) (e + 3)) (Or.inl ⟨rfl, rfl⟩) s1 (EvX_k ev s1.1.2.1) bd1 rfl (by omega) w1 (Or.inl ⟨rfl, w2⟩) (fun _ _ _ _ _ _ z => by cases z)
    refine st_exp (C := True) (px f (Nat.le_refl _) (e + 3)) (Or.inl ⟨rfl, rfl⟩) s1 (EvX_k ev s1.1.2.1) bd1 rfl (by omega) w1 (Or.inr ⟨r0, rfl, trivial⟩) (fun τ2 ret2 x1 x2 r ll hz _ s2 xk sg ln lt lv tg => ?_)
    cases hz
    have go2 := tk_go s2.1.1
    refine st_closes (kk := 7) s2 (by decide) rfl (gW_a3 w2) (fun τ3 ret3 y1 y2 c3 s3 => ?_)
    obtain ⟨k7, c3⟩ := c3
    have g3 := go2.2.2 (by omega)
    rw [← Option.some.inj c3]
    refine b11 _ τ3 _ _ _ ll s3 sg ?_ ?_ lv rfl
    · show 2 * ll.length ≤ 3 * (tkN T n r0.1 - q) + 1
      omega
    · show q < tkN T n r0.1
      omega
  refine Tm_no (kn 6 (by decide) k6) ?_
  rw [if_neg k6] at hG
  by_cases k8 : tkK T n q = 8
  · rw [if_pos (Or.inl k8)] at hG
    refine Tm_yes ((lx_k (kk := 8) h (by decide)).2 k8) ?_
    refine Tm_suc (fun k => pri_5 k _ _ _) ?_
    refine Tm_d ?_
    refine bx _ _ (c_row (tt := 0) (bt := bt) (g := if tkK T n q = 8 then 1 else 0) (bt1 := bNode bt (if tkK T n q = 8 then 10 else 11) 0 (-1) 0) (e3 := fun r s => s.2.2.2.2.1.1) (bt3 := fun r s => bWrap s.2.2.2.2.1 12 (if tkK T n q = 8 then 1 else 0) (nI r.2.2.2.1) (-1) (nI s.2.2.2.1)) px h ev bd (Or.inl k8) (Or.inl rfl) (by rw [k8]; rfl) rfl ?_ hd0)
    rw [← hG]
    refine congrArg (gO o) (congrArg (gT T n q) (funext (fun q1 => ?_)))
    rw [gFm_b]
  refine Tm_no (kn 8 (by decide) k8) ?_
  by_cases k10 : tkK T n q = 10
  · rw [if_pos (Or.inr k10)] at hG
    refine Tm_yes ((lx_k (kk := 10) h (by decide)).2 k10) ?_
    refine Tm_suc (fun k => pri_6 k _ _ _) ?_
    refine Tm_d ?_
    refine bx _ _ (c_row (tt := 1) (bt := bt) (g := if tkK T n q = 8 then 1 else 0) (bt1 := bNode bt (if tkK T n q = 8 then 10 else 11) 0 (-1) 0) (e3 := fun r s => s.2.2.2.2.1.1) (bt3 := fun r s => bWrap s.2.2.2.2.1 12 (if tkK T n q = 8 then 1 else 0) (nI r.2.2.2.1) (-1) (nI s.2.2.2.1)) px h ev bd (Or.inr k10) (Or.inr rfl) (by rw [k10]; rfl) rfl ?_ hd0)
    rw [← hG]
    refine congrArg (gO o) (congrArg (gT T n q) (funext (fun q1 => ?_)))
    rw [gFm_b]
  refine Tm_no (kn 10 (by decide) k10) ?_
  rw [if_neg (fun z => by omega)] at hG
  by_cases k39 : tkK T n q = 39
  · rw [if_neg (fun z => by omega), if_neg (fun z => by omega), if_pos k39] at hG
    refine Tm_yes ((lx_k (kk := 39) h (by decide)).2 k39) ?_
    refine Tm_suc (fun k => pri_7 k _ _ _) ?_
    refine Tm_d ?_
    exact bx _ _ (c_choice (e := e + 2) (fun f' hf => px f' hf (e + 2)) h ev bd (by omega) hG (fun z => by have := hd0 z; omega))
  refine Tm_no (kn 39 (by decide) k39) ?_
  -- om, true, false
  have b13 : ∀ (L' : LV), LitG (L'.1 100) → ¬ tkK T n q = 25 → gT T n q (fun q1 => some (some (q1, v, 0, bt.1, bNode bt (if tkK T n q = 60 then 3 else if tkK T n q = 61 then 4 else 5) 0 0 0, []))) = some x → Tm (fun k => f_F2 k (e + 4) 10 13 L' σ) (QPo b u tb.length sz mk x (PmR T n b u al gl Vm tb o mk p sz q v) σ 0 0) := by
    intro L' lit n25 hg
    have g1 := go.2.2 n25
    refine Tm_suc (fun k => pri_13 k _ _ _) ?_
    refine st_push s0 lit (by show sz + 0 + 2 ≤ _; omega) (fun τ1 ret1 m1 m2 s1 => ?_)
    refine st_advY s1 (gT_any hg) (fun τ2 r2 er c2 s2 => ?_)
    rw [er, ← Option.some.inj c2]
    refine b11 _ τ2 _ _ _ _ s2 (Sgm_1 (by show 1 ≤ 2; decide) (by show 1 ≤ 2; decide) (It_pu lit)) ?_ g1 (Nat.le_refl _) rfl
    show 2 * 2 ≤ 3 * (tkN T n q - q) + 1
    omega
  have b15 : ∀ (L' : LV), ¬ tkK T n q = 25 → gT T n q (fun q1 => some (some (q1, v, 0, bt.1, bNode bt (if tkK T n q = 60 then 3 else if tkK T n q = 61 then 4 else 5) 0 0 0, []))) = some x → Tm (fun k => f_F2 k (e + 4) 10 15 L' σ) (QPo b u tb.length sz mk x (PmR T n b u al gl Vm tb o mk p sz q v) σ 0 0) := by
    intro L' n25 hg
    refine Tm_suc (fun k => pri_15 k _ _ _) ?_
    refine Tm_op c_truL (fun r1 z => ?_)
    rw [z.1]
    exact b13 _ z.2 n25 hg
  have b8 : ∀ (L' : LV), ¬ tkK T n q = 25 → gT T n q (fun q1 => some (some (q1, v, 0, bt.1, bNode bt (if tkK T n q = 60 then 3 else if tkK T n q = 61 then 4 else 5) 0 0 0, []))) = some x → Tm (fun k => f_F2 k (e + 4) 10 8 L' σ) (QPo b u tb.length sz mk x (PmR T n b u al gl Vm tb o mk p sz q v) σ 0 0) := by
    intro L' n25 hg
    refine Tm_suc (fun k => pri_8 k _ _ _) ?_
    refine Tm_ite (fun _ => b13 _ (show LitG (-2147483648) from Or.inl (by decide)) n25 hg) (fun _ => ?_)
    refine Tm_suc (fun k => pri_12 k _ _ _) ?_
    refine Tm_ite (fun _ => b15 _ n25 hg) (fun _ => ?_)
    refine Tm_suc (fun k => pri_14 k _ _ _) ?_
    exact b15 _ n25 hg
  by_cases k60 : tkK T n q = 60
  · rw [if_pos (Or.inl k60)] at hG
    refine Tm_yes ((lx_k (kk := 60) h (by decide)).2 k60) ?_
    exact b8 _ (by omega) hG
  refine Tm_no (kn 60 (by decide) k60) ?_
  by_cases k61 : tkK T n q = 61
  · rw [if_pos (Or.inr (Or.inl k61))] at hG
    refine Tm_yes ((lx_k (kk := 61) h (by decide)).2 k61) ?_
    exact b8 _ (by omega) hG
  refine Tm_no (kn 61 (by decide) k61) ?_
  by_cases k62 : tkK T n q = 62
  · rw [if_pos (Or.inr (Or.inr k62))] at hG
    refine Tm_yes ((lx_k (kk := 62) h (by decide)).2 k62) ?_
    exact b8 _ (by omega) hG
  refine Tm_no (kn 62 (by decide) k62) ?_
  rw [if_neg (fun z => by omega)] at hG
  by_cases k69 : tkK T n q = 69
  · rw [if_pos (Or.inl k69)] at hG
    refine Tm_yes ((lx_k (kk := 69) h (by decide)).2 k69) ?_
    refine Tm_suc (fun k => pri_9 k _ _ _) ?_
    refine Tm_d ?_
    exact bx _ _ (c_quant (ex := 0) (e := e + 1) px h ev bd (Or.inl k69) hG (fun z => by have := hd0 z; omega))
  refine Tm_no (kn 69 (by decide) k69) ?_
  by_cases k70 : tkK T n q = 70
  · rw [if_pos (Or.inr k70)] at hG
    refine Tm_yes ((lx_k (kk := 70) h (by decide)).2 k70) ?_
    refine Tm_suc (fun k => pri_9 k _ _ _) ?_
    refine Tm_d ?_
    exact bx _ _ (c_quant (ex := 0) (e := e + 1) px h ev bd (Or.inr k70) hG (fun z => by have := hd0 z; omega))
  refine Tm_no (kn 70 (by decide) k70) ?_
  rw [if_neg (fun z => by omega), if_neg k39] at hG
  refine Tm_suc (fun k => pri_10 k _ _ _) ?_
  refine Tm_d ?_
  exact bx _ _ (c_wordQ (e := e + 2) (px f (Nat.le_refl _) (e + 2)) h ev bd hG (fun z => by have := hd0 z; omega))
end CVZ
