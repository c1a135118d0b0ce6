section JnS467
/-! The class: what stands in brackets, primaries. -/
section CVZ
variable {σ σ' σ0 τ τ' : CS} {L : LV} {b : Bool} {T : Nat → Int32} {n q q' u al o v mk p sz szB nc0 sz0 mk0 a1 a2 m kk f e t : Nat} {y w : Int32} {l l' cs cs' : List Int32} {tb : List Ent} {α : Type} {S : α → Int32 → CS → Prop} {C : Prop} {E : En} {gl : Nat × (Nat → Nat → Prop)} {Vm : Nat → Prop} {bt : BT}
theorem gFm_b (tu : Nat) (k : RT → RG) : gb (gFm T n f E o q v tu bt) k = gT T n q (fun q2 => gb (G T n f 17 E o q2 v 0 0 E.2.2.1.length 0 bt) (fun r =>
  if tkK T n r.1 = 15 then gT T n r.1 (fun q3 => gb (G T n f 0 (seeN E r.2.2.2.2.2) o q3 r.2.1 0 0 0 0 r.2.2.2.2.1) (fun s => gW T n 14 s.1 (fun q4 => gb (G T n f 0 (seeN E r.2.2.2.2.2) o q4 s.2.1 0 0 0 0 s.2.2.2.2.1) (fun t => k (t.1, t.2.1, 0, t.2.2.2.2.1.1, bWrap t.2.2.2.2.1 13 (if tu = 8 then 1 else 0) (hd r.2.2.2.1) (nI s.2.2.2.1) (nI t.2.2.2.1), [])))))
  else gW T n 14 r.1 (fun q4 => gb (G T n f 0 (seeN E r.2.2.2.2.2) o q4 r.2.1 0 0 0 0 r.2.2.2.2.1) (fun t => k (t.1, t.2.1, 0, t.2.2.2.2.1.1, bWrap t.2.2.2.2.1 13 (if tu = 8 then 1 else 0) (hd r.2.2.2.1) (-1) (nI t.2.2.2.1), []))))) := by
  unfold gFm
  rw [gb_gT]
  refine congrArg (gT T n q) (funext (fun q2 => ?_))
  rw [gb_gb]
  refine congrArg (gb (G T n f 17 E o q2 v 0 0 E.2.2.1.length 0 bt)) (funext (fun r => ?_))
  by_cases c : tkK T n r.1 = 15
  · rw [if_pos c, if_pos c, gb_gT]
    refine congrArg (gT T n r.1) (funext (fun q3 => ?_))
    rw [gb_gb]
    refine congrArg (gb _) (funext (fun s => ?_))
    rw [gb_gW]
    refine congrArg (gW T n 14 s.1) (funext (fun q4 => ?_))
    rw [gb_gb]
    rfl
  · rw [if_neg c, if_neg c, gb_gW]
    refine congrArg (gW T n 14 r.1) (funext (fun q4 => ?_))
    rw [gb_gb]
    rfl
/-- behind an operand that is no variable, from its code since the beginning -/
theorem XN_of {r : RT} (s : Sy T n b u al σ0 nc0 sz0 mk0 a1 a2 tb o r.1 r.2.1 mk p sz cs τ) (sg : Sgm u p gl Vm 1 cs) (ln : 2 * cs.length ≤ 3 * (r.1 - q) + 1) (lt : q < r.1) (lv : v ≤ r.2.1) (h0 : r.2.2.1 = 0) : XN T n b u al gl Vm tb o mk p sz q v r τ := ⟨cs, s.1.1, s.2, sg, ln, lt, lv, h0⟩
theorem gOT_any {k : Nat → RG} {x : Fl RT} (h : gO o q (gT T n q k) = some x) : (¬ (¬ o = 20 ∧ ¬ tkK T n (tkN T n q) = 0) ∧ x = Sum.inl (oF T n o q)) ∨ ((¬ o = 20 ∧ ¬ tkK T n (tkN T n q) = 0) ∧ k (tkN T n q) = some x) := by
  rcases gO_any h with ⟨w1, w2⟩ | ⟨w1, w2⟩
  · exact Or.inl ⟨fun z => z.1 w1, oF_a w1 w2⟩
  · rcases gT_any w2 with ⟨w3, w4⟩ | ⟨w3, w4⟩
    · exact Or.inl ⟨fun z => z.2 w3, oF_b w1 w4⟩
    · exact Or.inr ⟨⟨w1, w3⟩, w4⟩
theorem cl_k (h : tkK T n q = 8 ∨ tkK T n q = 10) : tkV (tkK T n q + 1) := by omega
theorem gb_some {x : RG} {k : RT → RG} {y : Fl RT} (h : gb x k = some y) : ∃ z, x = some z := by
  rcases gb_any h with ⟨yf, y1, _⟩ | ⟨r4, y1, _⟩
  · exact ⟨_, y1⟩
  · exact ⟨_, y1⟩
theorem rwo_0 (k d : Nat) (L : LV) (σ : CS) : f_F2 (k + 1) d 12 0 L σ = (ox (f_X5_opens k 0 lZ σ) (fun r1 => if ((r1.2.1.1 3702)) = 45 then (of d (fun e3 => ox (f_F2 k e3 3 0 (lI lZ 1 ((L.1 2))) r1.2.1) (fun r3 => f_F2 k d 12 2 L r3.2.1))) else (f_F2 k d 12 1 L r1.2.1))) := rfl
theorem rwo_1 (k d : Nat) (L : LV) (σ : CS) : f_F2 (k + 1) d 12 1 L σ = (if ((σ.1 3702)) = ((L.1 1)) then (oP (sPp σ) (fun b2 => ox (f_X7_emit__P k 0 (lI (lI (lB lZ 0 b2) 1 ((48 + ((L.1 2))))) 2 0) σ) (fun r3 => f_F2 k d 12 2 L r3.2.1))) else (f_F2 k d 12 3 L σ)) := rfl
theorem rwo_2 (k d : Nat) (L : LV) (σ : CS) : f_F2 (k + 1) d 12 2 L σ = (ox (f_X5_closes k 0 (lI lZ 1 ((L.1 1))) σ) (fun r1 => some ((0, 0), r1.2.1, (0, 0)))) := rfl
theorem rwo_3 (k d : Nat) (L : LV) (σ : CS) : f_F2 (k + 1) d 12 3 L σ = (of d (fun e1 => ox (f_F2 k e1 1 0 (lI lZ 1 0) σ) (fun r1 => if ((r1.2.1.1 3702)) = 28 then (ox (f_X2_advance k 0 lZ r1.2.1) (fun r3 => of d (fun e4 => ox (f_F2 k e4 1 0 (lI lZ 1 0) r3.2.1) (fun r4 => oP (sPp r4.2.1) (fun b5 => ox (f_X7_emit__P k 0 (lI (lI (lB lZ 0 b5) 1 ((50 + ((L.1 2))))) 2 0) r4.2.1) (fun r6 => f_F2 k d 12 2 L r6.2.1)))))) else (f_F2 k d 12 4 L r1.2.1)))) := rfl
theorem rwo_4 (k d : Nat) (L : LV) (σ : CS) : f_F2 (k + 1) d 12 4 L σ = (of d (fun e1 => ox (f_F2 k e1 6 0 (lI lZ 1 ((L.1 2))) σ) (fun r1 => f_F2 k d 12 2 L r1.2.1))) := rfl
theorem c_row {tt g : Nat} {bt1 : BT} {e3 : RT → RT → Nat} {bt3 : RT → RT → BT} {x : Fl RT} (px : ∀ f', f' ≤ f → ∀ e', PXp T n b u al f' e') (h : QS T n b u al tb o q v mk p sz σ) (ev : EvX E b u al gl Vm tb σ) (bd : BdX n o q v mk p sz tb.length) (hk : tkK T n q = 8 ∨ tkK T n q = 10) (ht : tt = 0 ∨ tt = 1) (l1 : L.1 1 = cKd (tkK T n q + 1)) (l2 : L.1 2 = nI tt) (hG : gO o q (gT T n q (fun q1 => if tkK T n q1 = tkK T n q + 1 then gT T n q1 (fun q2 => some (Sum.inr (q2, v, 0, bt.1, bt1, []))) else if tkK T n q1 = 45 then gb (gFm T n f E (o + 1) q1 v (tkK T n q) bt) (fun t => gW T n (tkK T n q + 1) t.1 (fun q5 => some (Sum.inr (q5, t.2.1, 0, t.2.2.2.1, t.2.2.2.2.1, [])))) else gb (G T n f 0 E (o + 1) q1 v 0 0 0 0 bt) (fun r => if tkK T n r.1 = 16 then gT T n r.1 (fun q2 => gb (G T n f 0 E (o + 1) q2 r.2.1 0 0 0 0 r.2.2.2.2.1) (fun s => gW T n (tkK T n q + 1) s.1 (fun q3 => some (Sum.inr (q3, s.2.1, 0, e3 r s, bt3 r s, []))))) else gb (G T n f 15 E (o + 1) r.1 r.2.1 r.2.2.2.1 r.2.2.2.1 1 g r.2.2.2.2.1) (fun s => gW T n (tkK T n q + 1) s.1 (fun q3 => some (Sum.inr (q3, s.2.1, 0, s.2.2.2.1, s.2.2.2.2.1, []))))))) = some x) (hd0 : ¬ o = 20 → 6 * (20 - (o + 1)) + 8 ≤ e) : Tm (fun k => f_F2 k (e + 3) 12 0 L σ) (QPo b u tb.length sz mk x (fun r _ τ => XN T n b u al gl Vm tb o mk p sz q v r τ) σ 0 0) := by
  have s0 := Sy_0 h
  have go := tk_go h
  have g1 := go.2.2 (by omega)
  have b22 := bd.2.1
  have n10 := bd.1
  have kv := cl_k hk
  -- the closing bracket
  have b2 : ∀ (L' : LV) (τ : CS) (a1 a2 q1 v1 e1 : Nat) (bt1 : BT) (ca : List Int32), L'.1 1 = cKd (tkK T n q + 1) → gW T n (tkK T n q + 1) q1 (fun q5 => some (Sum.inr (q5, v1, 0, e1, bt1, []))) = some x → Sy T n b u al σ tb.length sz mk a1 a2 tb (o + 1) q1 v1 mk p sz ca τ → Sgm u p gl Vm 1 ca → 2 * ca.length ≤ 3 * (q1 - q) + 3 → q < q1 → v ≤ v1 → Tm (fun k => f_F2 k (e + 3) 12 2 L' τ) (QPo b u tb.length sz mk x (fun r _ τ => XN T n b u al gl Vm tb o mk p sz q v r τ) σ a1 a2) := by
    intro L' τ a1 a2 q1 v1 e1 bt1 ca l1 hg s4 sg ln lt lv
    have go4 := tk_go s4.1.1
    refine Tm_suc (fun k => rwo_2 k _ _ _) ?_
    refine st_closes s4 kv l1 (gW_a3 hg) (fun τ5 ret5 n1 n2 c5 s5 => ?_)
    obtain ⟨kc, c5⟩ := c5
    have g5 := go4.2.2 (by omega)
    rw [← Option.some.inj c5]
    refine Tm_some (Qfin s5.1 (XN_of s5 sg ?_ ?_ lv rfl))
    · show 2 * ca.length ≤ 3 * (tkN T n q1 - q) + 1
      omega
    · show q < tkN T n q1
      omega
  refine Tm_suc (fun k => rwo_0 k _ _ _) ?_
  refine st_opens s0 (gOT_any hG) (fun τ1 ret1 m1 m2 c1 s1 => ?_)
  have o20 : ¬ o = 20 := fun z => by
    have := s1.1.1.2.2.2.2.2.1.2
    omega
  have hd1 := hd0 o20
  have go1 := tk_go s1.1.1
  have bd1 : BdX n (o + 1) (tkN T n q) v mk p (sz + 0) tb.length := BdX_g bd (by omega) go.2.1 (by omega) (Nat.le_refl _) (by omega)
  have ev1 := EvX_k ev s1.1.2.1
  by_cases k45 : tkK T n (tkN T n q) = 45
  · rw [if_neg (by omega), if_pos k45] at c1
    refine Tm_yes ((lx_k (kk := 45) s1.1.1 (by decide)).2 k45) ?_
    refine Tm_d ?_
    obtain ⟨z, hz⟩ := gb_some c1
    refine st_call (C := True) s1.1 (c_former ht l2 px s1.1.1 ev1 bd1 k45 hz hd1) ?_
    rcases gb_any c1 with ⟨yf, y1, y2⟩ | ⟨r, y1, y2⟩
    · rw [hz] at y1
      exact Or.inl ⟨_, Option.some.inj y1, y2⟩
    rw [hz] at y1
    refine Or.inr ⟨r, Option.some.inj y1, trivial, fun τ3 ret3 m3 m4 hr xk3 hc3 => ?_⟩
    obtain ⟨ll, i1, i2, sg, ln, lt, lv⟩ := hr
    have s3 := Sy_ca s1 i1 xk3 hc3 i2 (Nat.le_refl _) s1.1.2.2.2.2.2
    exact b2 _ τ3 _ _ r.1 r.2.1 _ _ ll l1 y2 s3 sg (by omega) (by omega) lv
  refine Tm_no (fun z => k45 ((lx_k (kk := 45) s1.1.1 (by decide)).1 z)) ?_
  refine Tm_suc (fun k => rwo_1 k _ _ _) ?_
  by_cases kc : tkK T n (tkN T n q) = tkK T n q + 1
  · rw [if_pos kc] at c1
    refine Tm_yes ?_ ?_
    · rw [l1]; exact (lx_k s1.1.1 kv).2 kc
    refine Tm_oP (Sy_pp s1) ?_
    refine st_emit (op := 48 + tt) s1 rfl (by show nI 48 + L.1 2 = _; rw [l2]; exact tt_a ht 48 (by decide)) (by show sz + 0 + 1 ≤ _; omega) (fun τ2 x1 x2 s2 => ?_)
    have sg : Sgm u p gl Vm 1 [em (48 + tt) 0] := by
      rcases ht with z | z
      · rw [z]; exact Sgm_1 (by decide) (by decide) (It_ms (n := 0) rfl (by decide))
      · rw [z]; exact Sgm_1 (by decide) (by decide) (It_mt (n := 0) rfl (by decide))
    refine b2 _ τ2 _ _ (tkN T n q) v bt.1 bt1 [em (48 + tt) 0] l1 ?_ s2 sg (by show 2 * 1 ≤ _; omega) g1 (Nat.le_refl _)
    unfold gW
    rw [if_pos kc]
    exact c1
  rw [if_neg kc, if_neg k45] at c1
  refine Tm_no (fun z => ?_) ?_
  · rw [l1] at z; exact kc ((lx_k s1.1.1 kv).1 z)
  refine Tm_suc (fun k => rwo_3 k _ _ _) ?_
  refine Tm_d ?_
  rcases gb_any c1 with ⟨yf, w1, w2⟩ | ⟨r0, w1, w2⟩
  · exact st_exp (C := True) (px f (Nat.le_refl _) (e + 2)) (Or.inl ⟨rfl, rfl⟩) s1 ev1 bd1 rfl (by omega) w1 (Or.inl ⟨_, rfl, w2⟩) (fun _ _ _ _ _ _ z => by cases z)
  refine st_exp (C := True) (px f (Nat.le_refl _) (e + 2)) (Or.inl ⟨rfl, rfl⟩) s1 ev1 bd1 rfl (by omega) w1 (Or.inr ⟨r0, rfl, trivial⟩) (fun τ2 ret2 x1 x2 r ll hz _ s2 xk sg ln lt lv tg => ?_)
  cases hz
  have go2 := tk_go s2.1.1
  have s2' : Sy T n b u al σ tb.length sz mk (0 + m1 + x1) (0 + m2 + x2) tb (o + 1) r0.1 r0.2.1 mk p sz ll τ2 := s2
  have ev2 := EvX_k ev s2'.1.2.1
  by_cases k16 : tkK T n r0.1 = 16
  · rw [if_pos k16] at w2
    have g2 := go2.2.2 (by omega)
    refine Tm_yes ((lx_k (kk := 16) s2.1.1 (by decide)).2 k16) ?_
    refine st_advY s2' (gT_any w2) (fun τ3 r3 er c3 s3 => ?_)
    refine Tm_d ?_
    rw [er]
    have bd3 : BdX n (o + 1) (tkN T n r0.1) r0.2.1 mk p (sz + ll.length) tb.length := BdX_g bd (by omega) go2.2.1 (by omega) lv (by omega)
    rcases gb_any c3 with ⟨yf, y1, y2⟩ | ⟨r4, y1, y2⟩
    · exact st_exp (C := True) (px f (Nat.le_refl _) (e + 2)) (Or.inl ⟨rfl, rfl⟩) s3 (EvX_k ev s3.1.2.1) bd3 rfl (by omega) y1 (Or.inl ⟨_, rfl, y2⟩) (fun _ _ _ _ _ _ z => by cases z)
    refine st_exp (C := True) (px f (Nat.le_refl _) (e + 2)) (Or.inl ⟨rfl, rfl⟩) s3 (EvX_k ev s3.1.2.1) bd3 rfl (by omega) y1 (Or.inr ⟨r4, rfl, trivial⟩) (fun τ5 ret5 p1 p2 r5 l5 hz5 _ s5 xk5 sg5 ln5 lt5 lv5 tg5 => ?_)
    cases hz5
    have q5n := (tk_go s5.1.1).1
    refine Tm_oP (Sy_pp s5) ?_
    have la : (ll ++ l5).length = ll.length + l5.length := List.length_append
    refine st_emit (op := 50 + tt) s5 rfl (by show nI 50 + L.1 2 = _; rw [l2]; exact tt_a ht 50 (by decide)) (by rw [la]; omega) (fun τ6 y3 y4 s6 => ?_)
    have sg6 : Sgm u p gl Vm 1 (ll ++ l5 ++ [em (50 + tt) 0]) := by
      refine Sgm_ap (m := 2) (Sgm_seq sg sg5) (Nat.le_refl 1) (by rw [la]; show 1 ≤ _ + 1; omega) ?_
      rcases ht with z | z
      · rw [z]; exact It_ss
      · rw [z]; exact It_st
    have lb : (ll ++ l5 ++ [em (50 + tt) 0]).length = ll.length + l5.length + 1 := by rw [List.length_append, la]; rfl
    have s6' : Sy T n b u al σ tb.length sz mk (0 + m1 + x1 + p1 + y3) (0 + m2 + x2 + p2 + y4) tb (o + 1) r4.1 r4.2.1 mk p sz (ll ++ l5 ++ [em (50 + tt) 0]) τ6 := s6
    exact b2 _ τ6 _ _ r4.1 r4.2.1 _ _ _ l1 y2 s6' sg6 (by rw [lb]; omega) (by omega) (by omega)
  · rw [if_neg k16] at w2
    refine Tm_no (fun z => k16 ((lx_k (kk := 16) s2.1.1 (by decide)).1 z)) ?_
    refine Tm_suc (fun k => rwo_4 k _ _ _) ?_
    refine Tm_d ?_
    have bd3 : BdX n (o + 1) r0.1 r0.2.1 mk p (sz + ll.length) tb.length := by
      obtain ⟨d1, d2, d3, d4, d5⟩ := bd1
      exact ⟨d1, by omega, by omega, by omega, by omega⟩
    obtain ⟨z, hz⟩ := gb_some w2
    refine st_call (C := True) s2'.1 (c_members (e := e + 1) ht l2 (fun f' hf => px f' hf (e + 1)) s2'.1.1 ev2 bd3 hz (by omega)) ?_
    rcases gb_any w2 with ⟨yf, y1, y2⟩ | ⟨r, y1, y2⟩
    · rw [hz] at y1
      exact Or.inl ⟨_, Option.some.inj y1, y2⟩
    rw [hz] at y1
    refine Or.inr ⟨r, Option.some.inj y1, trivial, fun τ3 ret3 m3 m4 hr xk3 hc3 => ?_⟩
    obtain ⟨l3, i1, i2, sg3, ln3, lt3, lv3⟩ := hr
    have s3 := Sy_ca s2' i1 xk3 hc3 i2 (Nat.le_refl _) s2'.1.2.2.2.2.2
    have la : (ll ++ l3).length = ll.length + l3.length := List.length_append
    exact b2 _ τ3 _ _ r.1 r.2.1 _ _ (ll ++ l3) l1 y2 s3 (sg3 ll sg) (by rw [la]; omega) (by omega) (by omega)
theorem pri_0 (k d : Nat) (L : LV) (σ : CS) : f_F2 (k + 1) d 10 0 L σ = (if ((σ.1 3702)) = (2 : Int32) then (f_F2 k d 10 1 L σ) else (if ((σ.1 3702)) = (3 : Int32) then (f_F2 k d 10 2 L σ) else (if ((σ.1 3702)) = (4 : Int32) then (f_F2 k d 10 3 L σ) else (if ((σ.1 3702)) = (10 : Int32) then (f_F2 k d 10 4 L σ) else (if ((σ.1 3702)) = (12 : Int32) then (f_F2 k d 10 5 L σ) else (if ((σ.1 3702)) = (14 : Int32) then (f_F2 k d 10 6 L σ) else (if ((σ.1 3702)) = (39 : Int32) then (f_F2 k d 10 7 L σ) else (if ((σ.1 3702)) = (60 : Int32) then (f_F2 k d 10 8 L σ) else (if ((σ.1 3702)) = (61 : Int32) then (f_F2 k d 10 8 L σ) else (if ((σ.1 3702)) = (62 : Int32) then (f_F2 k d 10 8 L σ) else (if ((σ.1 3702)) = (69 : Int32) then (f_F2 k d 10 9 L σ) else (if ((σ.1 3702)) = (70 : Int32) then (f_F2 k d 10 9 L σ) else (f_F2 k d 10 10 L σ))))))))))))) := rfl
theorem pri_1 (k d : Nat) (L : LV) (σ : CS) : f_F2 (k + 1) d 10 1 L σ = (of d (fun e1 => ox (f_F2 k e1 7 0 lZ σ) (fun r1 => some ((0, r1.1.2), r1.2.1, (0, 0))))) := rfl
theorem pri_2 (k d : Nat) (L : LV) (σ : CS) : f_F2 (k + 1) d 10 2 L σ = (ox (f_X5_number k 0 lZ σ) (fun r1 => f_F2 k d 10 11 L r1.2.1)) := rfl
theorem pri_3 (k d : Nat) (L : LV) (σ : CS) : f_F2 (k + 1) d 10 3 L σ = (ox (f_X5_string k 0 lZ σ) (fun r1 => f_F2 k d 10 11 L r1.2.1)) := rfl
theorem pri_4 (k d : Nat) (L : LV) (σ : CS) : f_F2 (k + 1) d 10 4 L σ = (ox (f_X5_opens k 0 lZ σ) (fun r1 => of d (fun e2 => ox (f_F2 k e2 1 0 (lI lZ 1 0) r1.2.1) (fun r2 => ox (f_X5_closes k 0 (lI lZ 1 11) r2.2.1) (fun r3 => f_F2 k d 10 11 L r3.2.1))))) := rfl
theorem pri_5 (k d : Nat) (L : LV) (σ : CS) : f_F2 (k + 1) d 10 5 L σ = (of d (fun e1 => ox (f_F2 k e1 12 0 (lI (lI lZ 1 13) 2 0) σ) (fun r1 => f_F2 k d 10 11 L r1.2.1))) := rfl
theorem pri_6 (k d : Nat) (L : LV) (σ : CS) : f_F2 (k + 1) d 10 6 L σ = (of d (fun e1 => ox (f_F2 k e1 12 0 (lI (lI lZ 1 15) 2 1) σ) (fun r1 => f_F2 k d 10 11 L r1.2.1))) := rfl
theorem pri_7 (k d : Nat) (L : LV) (σ : CS) : f_F2 (k + 1) d 10 7 L σ = (of d (fun e1 => ox (f_F2 k e1 0 0 lZ σ) (fun r1 => f_F2 k d 10 11 L r1.2.1))) := rfl
theorem pri_8 (k d : Nat) (L : LV) (σ : CS) : f_F2 (k + 1) d 10 8 L σ = (if ((σ.1 3702)) = 60 then (f_F2 k d 10 13 (lI L 100 ((-2147483648))) σ) else (f_F2 k d 10 12 L σ)) := rfl
theorem pri_9 (k d : Nat) (L : LV) (σ : CS) : f_F2 (k + 1) d 10 9 L σ = (of d (fun e1 => ox (f_F2 k e1 11 0 lZ σ) (fun r1 => f_F2 k d 10 11 L r1.2.1))) := rfl
theorem pri_10 (k d : Nat) (L : LV) (σ : CS) : f_F2 (k + 1) d 10 10 L σ = (of d (fun e1 => ox (f_F2 k e1 13 0 lZ σ) (fun r1 => f_F2 k d 10 11 L r1.2.1))) := rfl
theorem pri_11 (k d : Nat) (L : LV) (σ : CS) : f_F2 (k + 1) d 10 11 L σ = (some ((0, (-1)), σ, (0, 0))) := rfl
theorem pri_12 (k d : Nat) (L : LV) (σ : CS) : f_F2 (k + 1) d 10 12 L σ = (if ((σ.1 3702)) = 61 then (f_F2 k d 10 15 (lI L 100 1) σ) else (f_F2 k d 10 14 L σ)) := rfl
theorem pri_13 (k d : Nat) (L : LV) (σ : CS) : f_F2 (k + 1) d 10 13 L σ = (ox (f_X5_push k 0 (lI lZ 1 ((L.1 100))) σ) (fun r1 => ox (f_X2_advance k 0 lZ r1.2.1) (fun r2 => f_F2 k d 10 11 L r2.2.1))) := rfl
theorem pri_14 (k d : Nat) (L : LV) (σ : CS) : f_F2 (k + 1) d 10 14 L σ = (f_F2 k d 10 15 (lI L 100 0) σ) := rfl
theorem pri_15 (k d : Nat) (L : LV) (σ : CS) : f_F2 (k + 1) d 10 15 L σ = (op (y_X11_truth k 0 (lI lZ 0 ((L.1 100))) σ) (fun r1 => f_F2 k d 10 13 (lI L 100 r1.1) r1.2)) := rfl
theorem c_primary {x : Fl RT} (px : ∀ f', f' ≤ f → ∀ e', PXp T n b u al f' e') (h : QS T n b u al tb o q v mk p sz σ) (ev : EvX E b u al gl Vm tb σ) (bd : BdX n o q v mk p sz tb.length) (hG : G T n (f + 1) 13 E o q v 0 0 0 0 bt = some x) (hd0 : ¬ o = 20 → 6 * (20 - (o + 1)) + 8 ≤ e) : Tm (fun k => f_F2 k (e + 4) 10 0 L σ) (QPo b u tb.length sz mk x (PmR T n b u al gl Vm tb o mk p sz q v) σ 0 0) := by
  have s0 := Sy_0 h
  have go := tk_go h
  have b22 := bd.2.1
  have n10 := bd.1
  rw [G_13] at hG
  have kn : ∀ j, tkV j → ¬ tkK T n q = j → ¬ σ.1 3702 = cKd j := fun j hj z w => z ((lx_k h hj).1 w)
  have b11 : ∀ (L' : LV) (τ : CS) (a1 a2 : Nat) (r : RT) (ca : List Int32), Sy T n b u al σ tb.length sz mk a1 a2 tb o r.1 r.2.1 mk p sz ca τ → Sgm u p gl Vm 1 ca → 2 * ca.length ≤ 3 * (r.1 - q) + 1 → q < r.1 → v ≤ r.2.1 → r.2.2.1 = 0 → Tm (fun k => f_F2 k (e + 4) 10 11 L' τ) (QPo b u tb.length sz mk (Sum.inr r) (PmR T n b u al gl Vm tb o mk p sz q v) σ a1 a2) := by
    intro L' τ a1 a2 r ca s sg ln lt lv h0
    refine Tm_suc (fun k => pri_11 k _ _ _) ?_
    exact Tm_some (Qfin s.1 ⟨ca, s.1.1, s.2, sg, ln, lt, lv, Or.inl ⟨h0, rfl⟩⟩)
  -- behind a method that reads no variable
  have bx : ∀ (L' : LV) (g : Nat → Option RS), Tm g (QPo b u tb.length sz mk x (fun r _ τ => XN T n b u al gl Vm tb o mk p sz q v r τ) σ 0 0) → Tm (fun k => ox (g k) (fun r1 => f_F2 k (e + 4) 10 11 L' r1.2.1)) (QPo b u tb.length sz mk x (PmR T n b u al gl Vm tb o mk p sz q v) σ 0 0) := by
    intro L' g t
    refine st_call (C := True) s0.1 t ?_
    rcases x with _ | r
    · exact Or.inl ⟨_, rfl, rfl⟩
    refine Or.inr ⟨r, rfl, trivial, fun τ3 ret3 m3 m4 hr xk3 hc3 => ?_⟩
    obtain ⟨ll, i1, i2, sg, ln, lt, lv, i0⟩ := hr
    have s3 : Sy T n b u al σ tb.length sz mk (0 + m3) (0 + m4) tb o r.1 r.2.1 mk p sz ll τ3 := Sy_ca s0 i1 xk3 hc3 i2 (Nat.le_refl _) s0.1.2.2.2.2.2
    exact b11 _ τ3 _ _ r ll s3 sg ln lt lv i0
  refine Tm_suc (fun k => pri_0 k _ _ _) ?_
  by_cases k26 : tkK T n q = 26
  · rw [if_neg (by omega), if_neg (by omega), if_pos k26] at hG
    refine Tm_yes ((lx_k (kk := 26) h (by decide)).2 k26) ?_
    refine Tm_suc (fun k => pri_1 k _ _ _) ?_
    refine Tm_d ?_
    have nm : ∃ f0, f0 ≤ f ∧ gT T n q (fun q1 => if (fd E (tkS T n q)).1 = 1 then some (Sum.inr (q1, v, 1, bt.1, bNode bt 7 (fd E (tkS T n q)).2.2 (nI (fd E (tkS T n q)).2.1) 0, [])) else if (fd E (tkS T n q)).1 = 2 ∧ tkK T n q1 = 6 then gO o q1 (gT T n q1 (fun q2 => gb (G T n (f0 + 1) 14 E (o + 1) q2 v 0 0 0 0 bt) (fun r => if tkK T n r.1 = 7 ∧ r.2.2.1 = E.2.2.2.2.2.2 (fd E (tkS T n q)).2.1 then gT T n r.1 (fun q3 => some (Sum.inr (q3, r.2.1, 0, r.2.2.2.2.1.1, bWrap r.2.2.2.2.1 8 (nI (fd E (tkS T n q)).2.1) (hd r.2.2.2.1) (nI r.2.2.1) (nI (o + 1)), []))) else some (Sum.inl (if tkK T n r.1 = 7 then 6 else 2, r.1))))) else some (Sum.inl (5, q))) = some x := by
      rcases f with _ | f0
      · refine ⟨0, Nat.le_refl _, ?_⟩
        rcases gT_any hG with ⟨w1, w2⟩ | ⟨w1, w2⟩
        · rw [w2]; exact if_pos w1
        refine (if_neg w1).trans ?_
        by_cases c1 : (fd E (tkS T n q)).1 = 1
        · exact (if_pos c1).trans ((if_pos c1).symm.trans w2)
        refine (if_neg c1).trans ?_
        have w2a := (if_neg c1).symm.trans w2
        by_cases c2 : (fd E (tkS T n q)).1 = 2 ∧ tkK T n (tkN T n q) = 6
        · have w2b := (if_pos c2).symm.trans w2a
          refine (if_pos c2).trans ?_
          rcases gOT_any w2b with ⟨w3, w4⟩ | ⟨w3, w4⟩
          · rw [w4]
            by_cases c3 : o = 20
            · exact (if_pos c3).trans (by rw [oF_y c3])
            · exact (if_neg c3).trans ((if_pos (Classical.byContradiction (fun z => w3 ⟨c3, z⟩))).trans (by rw [oF_n c3]))
          · exact absurd w4 (by intro z; cases z)
        · exact (if_neg c2).trans ((if_neg c2).symm.trans w2a)
      · exact ⟨f0, Nat.le_succ _, hG⟩
    obtain ⟨f0, hf0, hG0⟩ := nm
    have t := c_named (L := lZ) (fun f' hf' => px f' (by omega) e) h ev bd k26 hG0 hd0
    refine st_call (C := True) s0.1 t ?_
    rcases x with _ | r
    · exact Or.inl ⟨_, rfl, rfl⟩
    refine Or.inr ⟨r, rfl, trivial, fun τ3 ret3 m3 m4 hr xk3 hc3 => ?_⟩
    obtain ⟨ll, i1, i2, sg, ln, lt, lv, i0⟩ := hr
    have s3 : Sy T n b u al σ tb.length sz mk (0 + m3) (0 + m4) tb o r.1 r.2.1 mk p sz ll τ3 := Sy_ca s0 i1 xk3 hc3 i2 (Nat.le_refl _) s0.1.2.2.2.2.2
    exact Tm_some (Qfin s3.1 ⟨ll, i1, i2, sg, ln, lt, lv, i0⟩)
  refine Tm_no (kn 26 (by decide) k26) ?_
  by_cases k27 : tkK T n q = 27
  · rw [if_pos k27] at hG
    refine Tm_yes ((lx_k (kk := 27) h (by decide)).2 k27) ?_
    refine Tm_suc (fun k => pri_2 k _ _ _) ?_
    exact bx _ _ (c_numQ h bd k27 hG)
  refine Tm_no (kn 27 (by decide) k27) ?_
  rw [if_neg k27] at hG
  by_cases k28 : tkK T n q = 28
  · rw [if_pos k28] at hG
    refine Tm_yes ((lx_k (kk := 28) h (by decide)).2 k28) ?_
    refine Tm_suc (fun k => pri_3 k _ _ _) ?_
    exact bx _ _ (c_strQ h bd k28 hG)
  refine Tm_no (kn 28 (by decide) k28) ?_
  rw [if_neg k28, if_neg k26] at hG
  by_cases k6 : tkK T n q = 6
  · rw [if_pos k6] at hG
    refine Tm_yes ((lx_k (kk := 6) h (by decide)).2 k6) ?_
    have g1 := go.2.2 (by omega)
    refine Tm_suc (fun k => pri_4 k _ _ _) ?_
    refine st_opens s0 (gOT_any hG) (fun τ1 ret1 m1 m2 c1 s1 => ?_)
    have o20 : ¬ o = 20 := fun z => by
      have := s1.1.1.2.2.2.2.2.1.2
      omega
    have hd1 := hd0 o20
    refine Tm_d ?_
    have bd1 : BdX n (o + 1) (tkN T n q) v mk p (sz + 0) tb.length := BdX_g bd (by omega) go.2.1 (by omega) (Nat.le_refl _) (by omega)
    rcases gb_any c1 with ⟨yf, w1, w2⟩ | ⟨r0, w1, w2⟩
    · exact st_exp (C := True) (px f (Nat.le_refl _) (e + 3)) (Or.inl ⟨rfl, rfl⟩) s1 (EvX_k ev s1.1.2.1) bd1 rfl (by omega) w1 (Or.inl ⟨_, rfl, w2⟩) (fun _ _ _ _ _ _ z => by cases z)
    refine st_exp (C := True) (px f (Nat.le_refl _) (e + 3)) (Or.inl ⟨rfl, rfl⟩) s1 (EvX_k ev s1.1.2.1) bd1 rfl (by omega) w1 (Or.inr ⟨r0, rfl, trivial⟩) (fun τ2 ret2 x1 x2 r ll hz _ s2 xk sg ln lt lv tg => ?_)
    cases hz
    have go2 := tk_go s2.1.1
    refine st_closes (kk := 7) s2 (by decide) rfl (gW_a3 w2) (fun τ3 ret3 y1 y2 c3 s3 => ?_)
    obtain ⟨k7, c3⟩ := c3
    have g3 := go2.2.2 (by omega)
    rw [← Option.some.inj c3]
    refine b11 _ τ3 _ _ _ ll s3 sg ?_ ?_ lv rfl
    · show 2 * ll.length ≤ 3 * (tkN T n r0.1 - q) + 1
      omega
    · show q < tkN T n r0.1
      omega
  refine Tm_no (kn 6 (by decide) k6) ?_
  rw [if_neg k6] at hG
  by_cases k8 : tkK T n q = 8
  · rw [if_pos (Or.inl k8)] at hG
    refine Tm_yes ((lx_k (kk := 8) h (by decide)).2 k8) ?_
    refine Tm_suc (fun k => pri_5 k _ _ _) ?_
    refine Tm_d ?_
    refine bx _ _ (c_row (tt := 0) (bt := bt) (g := if tkK T n q = 8 then 1 else 0) (bt1 := bNode bt (if tkK T n q = 8 then 10 else 11) 0 (-1) 0) (e3 := fun r s => s.2.2.2.2.1.1) (bt3 := fun r s => bWrap s.2.2.2.2.1 12 (if tkK T n q = 8 then 1 else 0) (nI r.2.2.2.1) (-1) (nI s.2.2.2.1)) px h ev bd (Or.inl k8) (Or.inl rfl) (by rw [k8]; rfl) rfl ?_ hd0)
    rw [← hG]
    refine congrArg (gO o q) (congrArg (gT T n q) (funext (fun q1 => ?_)))
    rw [gFm_b]
  refine Tm_no (kn 8 (by decide) k8) ?_
  by_cases k10 : tkK T n q = 10
  · rw [if_pos (Or.inr k10)] at hG
    refine Tm_yes ((lx_k (kk := 10) h (by decide)).2 k10) ?_
    refine Tm_suc (fun k => pri_6 k _ _ _) ?_
    refine Tm_d ?_
    refine bx _ _ (c_row (tt := 1) (bt := bt) (g := if tkK T n q = 8 then 1 else 0) (bt1 := bNode bt (if tkK T n q = 8 then 10 else 11) 0 (-1) 0) (e3 := fun r s => s.2.2.2.2.1.1) (bt3 := fun r s => bWrap s.2.2.2.2.1 12 (if tkK T n q = 8 then 1 else 0) (nI r.2.2.2.1) (-1) (nI s.2.2.2.1)) px h ev bd (Or.inr k10) (Or.inr rfl) (by rw [k10]; rfl) rfl ?_ hd0)
    rw [← hG]
    refine congrArg (gO o q) (congrArg (gT T n q) (funext (fun q1 => ?_)))
    rw [gFm_b]
  refine Tm_no (kn 10 (by decide) k10) ?_
  rw [if_neg (fun z => by omega)] at hG
  by_cases k39 : tkK T n q = 39
  · rw [if_neg (fun z => by omega), if_neg (fun z => by omega), if_pos k39] at hG
    refine Tm_yes ((lx_k (kk := 39) h (by decide)).2 k39) ?_
    refine Tm_suc (fun k => pri_7 k _ _ _) ?_
    refine Tm_d ?_
    exact bx _ _ (c_choice (e := e + 2) (fun f' hf => px f' hf (e + 2)) h ev bd (by omega) hG (fun z => by have := hd0 z; omega))
  refine Tm_no (kn 39 (by decide) k39) ?_
  -- om, true, false
  have b13 : ∀ (L' : LV), LitG (L'.1 100) → ¬ tkK T n q = 25 → gT T n q (fun q1 => some (Sum.inr (q1, v, 0, bt.1, bNode bt (if tkK T n q = 60 then 3 else if tkK T n q = 61 then 4 else 5) 0 0 0, []))) = some x → Tm (fun k => f_F2 k (e + 4) 10 13 L' σ) (QPo b u tb.length sz mk x (PmR T n b u al gl Vm tb o mk p sz q v) σ 0 0) := by
    intro L' lit n25 hg
    have g1 := go.2.2 n25
    refine Tm_suc (fun k => pri_13 k _ _ _) ?_
    refine st_push s0 lit (by show sz + 0 + 2 ≤ _; omega) (fun τ1 ret1 m1 m2 s1 => ?_)
    refine st_advY s1 (gT_any hg) (fun τ2 r2 er c2 s2 => ?_)
    rw [er, ← Option.some.inj c2]
    refine b11 _ τ2 _ _ _ _ s2 (Sgm_1 (by show 1 ≤ 2; decide) (by show 1 ≤ 2; decide) (It_pu lit)) ?_ g1 (Nat.le_refl _) rfl
    show 2 * 2 ≤ 3 * (tkN T n q - q) + 1
    omega
  have b15 : ∀ (L' : LV), ¬ tkK T n q = 25 → gT T n q (fun q1 => some (Sum.inr (q1, v, 0, bt.1, bNode bt (if tkK T n q = 60 then 3 else if tkK T n q = 61 then 4 else 5) 0 0 0, []))) = some x → Tm (fun k => f_F2 k (e + 4) 10 15 L' σ) (QPo b u tb.length sz mk x (PmR T n b u al gl Vm tb o mk p sz q v) σ 0 0) := by
    intro L' n25 hg
    refine Tm_suc (fun k => pri_15 k _ _ _) ?_
    refine Tm_op c_truL (fun r1 z => ?_)
    rw [z.1]
    exact b13 _ z.2 n25 hg
  have b8 : ∀ (L' : LV), ¬ tkK T n q = 25 → gT T n q (fun q1 => some (Sum.inr (q1, v, 0, bt.1, bNode bt (if tkK T n q = 60 then 3 else if tkK T n q = 61 then 4 else 5) 0 0 0, []))) = some x → Tm (fun k => f_F2 k (e + 4) 10 8 L' σ) (QPo b u tb.length sz mk x (PmR T n b u al gl Vm tb o mk p sz q v) σ 0 0) := by
    intro L' n25 hg
    refine Tm_suc (fun k => pri_8 k _ _ _) ?_
    refine Tm_ite (fun _ => b13 _ (show LitG (-2147483648) from Or.inl (by decide)) n25 hg) (fun _ => ?_)
    refine Tm_suc (fun k => pri_12 k _ _ _) ?_
    refine Tm_ite (fun _ => b15 _ n25 hg) (fun _ => ?_)
    refine Tm_suc (fun k => pri_14 k _ _ _) ?_
    exact b15 _ n25 hg
  by_cases k60 : tkK T n q = 60
  · rw [if_pos (Or.inl k60)] at hG
    refine Tm_yes ((lx_k (kk := 60) h (by decide)).2 k60) ?_
    exact b8 _ (by omega) hG
  refine Tm_no (kn 60 (by decide) k60) ?_
  by_cases k61 : tkK T n q = 61
  · rw [if_pos (Or.inr (Or.inl k61))] at hG
    refine Tm_yes ((lx_k (kk := 61) h (by decide)).2 k61) ?_
    exact b8 _ (by omega) hG
  refine Tm_no (kn 61 (by decide) k61) ?_
  by_cases k62 : tkK T n q = 62
  · rw [if_pos (Or.inr (Or.inr k62))] at hG
    refine Tm_yes ((lx_k (kk := 62) h (by decide)).2 k62) ?_
    exact b8 _ (by omega) hG
  refine Tm_no (kn 62 (by decide) k62) ?_
  rw [if_neg (fun z => by omega)] at hG
  by_cases k69 : tkK T n q = 69
  · rw [if_pos (Or.inl k69)] at hG
    refine Tm_yes ((lx_k (kk := 69) h (by decide)).2 k69) ?_
    refine Tm_suc (fun k => pri_9 k _ _ _) ?_
    refine Tm_d ?_
    exact bx _ _ (c_quant (ex := 0) (e := e + 1) px h ev bd (Or.inl k69) hG (fun z => by have := hd0 z; omega))
  refine Tm_no (kn 69 (by decide) k69) ?_
  by_cases k70 : tkK T n q = 70
  · rw [if_pos (Or.inr k70)] at hG
    refine Tm_yes ((lx_k (kk := 70) h (by decide)).2 k70) ?_
    refine Tm_suc (fun k => pri_9 k _ _ _) ?_
    refine Tm_d ?_
    exact bx _ _ (c_quant (ex := 0) (e := e + 1) px h ev bd (Or.inr k70) hG (fun z => by have := hd0 z; omega))
  refine Tm_no (kn 70 (by decide) k70) ?_
  rw [if_neg (fun z => by omega), if_neg k39] at hG
  refine Tm_suc (fun k => pri_10 k _ _ _) ?_
  refine Tm_d ?_
  exact bx _ _ (c_wordQ (e := e + 2) (px f (Nat.le_refl _) (e + 2)) h ev bd hG (fun z => by have := hd0 z; omega))
end CVZ
end JnS467
section JnS468
/-! The class: operands, with their parts. -/
section CWA
variable {σ σ' σ0 τ τ' : CS} {L : LV} {b : Bool} {T : Nat → Int32} {n q q' u al o v mk p sz szB nc0 sz0 mk0 a1 a2 m kk f e t : Nat} {y w : Int32} {l l' cs cs' : List Int32} {tb : List Ent} {α : Type} {S : α → Int32 → CS → Prop} {C : Prop} {E : En} {gl : Nat × (Nat → Nat → Prop)} {Vm : Nat → Prop} {bt : BT} {x : Fl α}
theorem Sy_mk (h : Sy T n b u al σ0 nc0 sz0 mk0 a1 a2 tb o q v mk p szB cs τ) (a : MrO mk l τ τ') {n1 n2 : Nat} (c : n1 + PhC τ' ≤ PhC τ ∧ n2 + PhS τ' ≤ PhS τ) : Sy T n b u al σ0 nc0 sz0 mk0 (a1 + n1) (a2 + n2) tb o q v (mk + l.length) p szB cs τ' := by
  obtain ⟨⟨h1, h2, h3, h4, h5, h6⟩, k2⟩ := h
  obtain ⟨q1, q2⟩ := QS_mk h1 a
  refine ⟨⟨q1, XK_t h2 q2 h4 h5 h6, ⟨by omega, by omega⟩, h4, h5, by omega⟩, fun i hi => ?_⟩
  rw [(q2.2.2.2.2.2.1 (szB + i) (by omega)).1]
  exact k2 i hi
theorem st_mark {f' : Nat → RS → Option RS} (h : Sy T n b u al σ0 nc0 sz0 mk0 a1 a2 tb o q v mk p szB cs τ) (hm : mk + 1 ≤ 21504) (cont : ∀ (τ' : CS) (n1 n2 : Nat), Sy T n b u al σ0 nc0 sz0 mk0 (a1 + n1) (a2 + n2) tb o q v (mk + 1) p szB cs τ' → (∀ i, i < mk → τ'.2.2.1 41 i = τ.2.2.1 41 i) → τ'.2.2.1 41 mk = L.1 1 → Tm (fun k => f' k ((0, nI mk), τ', (n1, n2))) (QPo b u nc0 sz0 mk0 x S σ0 (a1 + n1) (a2 + n2))) : Tm (fun k => ox (f_X5_mark k 0 L τ) (f' k)) (QPo b u nc0 sz0 mk0 x S σ0 a1 a2) := by
  refine Tm_ox (c_mark h.1.1.2.2.1 hm) (fun r w nz => absurd (by rw [w.1]) nz) (fun r w e0 => ?_)
  obtain ⟨w1, w2, w3⟩ := w
  have k := cont r.2.1 r.2.2.1 r.2.2.2 (Sy_mk h w3 ⟨w2.1, w2.2⟩) w3.2.2.1 (w3.2.2.2 0 (by show 0 < 1; decide))
  have er : ((0, nI mk), r.2.1, (r.2.2.1, r.2.2.2)) = r := by rw [← w1]
  rw [er] at k
  exact Tm_mono k (fun q z => QPo_s z)
theorem st_post {f' : Nat → RS → Option RS} (h : Sy T n b u al σ0 nc0 sz0 mk0 a1 a2 tb o q v mk p szB cs τ) (hm : mk + 3 ≤ 21504) (cont : ∀ (τ' : CS) (n1 n2 : Nat), Sy T n b u al σ0 nc0 sz0 mk0 (a1 + n1) (a2 + n2) tb o q v (mk + 3) p szB cs τ' → (∀ i, i < mk → τ'.2.2.1 41 i = τ.2.2.1 41 i) → (τ'.2.2.1 41 mk = L.1 1 ∧ τ'.2.2.1 41 (mk + 1) = L.1 2 ∧ τ'.2.2.1 41 (mk + 2) = L.1 3) → τ'.1 4016 = τ.1 4016 → Tm (fun k => f' k ((0, 0), τ', (n1, n2))) (QPo b u nc0 sz0 mk0 x S σ0 (a1 + n1) (a2 + n2))) : Tm (fun k => ox (f_X5_postpone k 0 L τ) (f' k)) (QPo b u nc0 sz0 mk0 x S σ0 a1 a2) := by
  refine Tm_ox (c_postpone h.1.1.2.2.1 hm) (fun r w nz => absurd (by rw [w.1]) nz) (fun r w e0 => ?_)
  obtain ⟨w1, w2, w3⟩ := w
  have k := cont r.2.1 r.2.2.1 r.2.2.2 (Sy_mk h w3 ⟨w2.1, w2.2⟩) w3.2.2.1 ⟨w3.2.2.2 0 (by show 0 < 3; decide), w3.2.2.2 1 (by show 1 < 3; decide), w3.2.2.2 2 (by show 2 < 3; decide)⟩ (w3.1.1 4016 (by decide))
  have er : ((0, 0), r.2.1, (r.2.2.1, r.2.2.2)) = r := by rw [← w1]
  rw [er] at k
  exact Tm_mono k (fun q z => QPo_s z)
/-- an instruction; what is not the code stays -/
theorem st_emitF {op : Nat} {f' : Nat → RS → Option RS} (h : Sy T n b u al σ0 nc0 sz0 mk0 a1 a2 tb o q v mk p szB cs τ) (hb : L.2.2.1 0 = b) (h1 : L.1 1 = nI op) (hm : szB + cs.length + 1 ≤ 36864) (cont : ∀ (τ' : CS) (n1 n2 : Nat), Sy T n b u al σ0 nc0 sz0 mk0 (a1 + n1) (a2 + n2) tb o q v mk p szB (cs ++ [em op (L.1 2)]) τ' → (τ'.2.2.1 41 = τ.2.2.1 41 ∧ sN τ' 41 = sN τ 41) → (∀ j, ¬ j = fP b 1 → τ'.1 j = τ.1 j) → Tm (fun k => f' k ((0, nI (szB + cs.length)), τ', (n1, n2))) (QPo b u nc0 sz0 mk0 x S σ0 (a1 + n1) (a2 + n2))) : Tm (fun k => ox (f_X7_emit__P k 0 L τ) (f' k)) (QPo b u nc0 sz0 mk0 x S σ0 a1 a2) := by
  refine Tm_ox (c_emit h.1.1.2.1 hb hm) (fun r w nz => absurd (by rw [w.1]) nz) (fun r w e0 => ?_)
  obtain ⟨w1, w2, w3⟩ := w
  rw [h1] at w3
  have k := cont r.2.1 r.2.2.1 r.2.2.2 (Sy_cd h w3 ⟨w2.1, w2.2⟩) (w3.1.2.2.1 41 (by decide)) w3.1.1
  have er : ((0, nI (szB + cs.length)), r.2.1, (r.2.2.1, r.2.2.2)) = r := by rw [← w1]
  rw [er] at k
  exact Tm_mono k (fun q z => QPo_s z)
theorem PtM_k : ∀ (pl : List (List Int32 × Nat)) (mk st : Nat), (∀ i, i < mk + 3 * pl.length → τ'.2.2.1 41 i = τ.2.2.1 41 i) → PtM τ mk st pl → PtM τ' mk st pl
  | [], k0, st, _, _ => trivial
  | z :: r, k0, st, e, h => by
    have el : (z :: r).length = r.length + 1 := rfl
    obtain ⟨⟨h1, h2, h3⟩, h4⟩ := h
    refine ⟨⟨by rw [e k0 (by omega)]; exact h1, by rw [e (k0 + 1) (by omega)]; exact h2, by rw [e (k0 + 2) (by omega)]; exact h3⟩, PtM_k r (k0 + 3) _ (fun i hi => e i (by omega)) h4⟩
theorem ptC_ap (z : List Int32 × Nat) : ∀ (pl : List (List Int32 × Nat)), ptC (pl ++ [z]) = ptC pl ++ (z.1 ++ [em z.2 0])
  | [] => by show z.1 ++ (em z.2 0 :: []) = [] ++ _; rw [List.nil_append]
  | a :: r => by
    show a.1 ++ (em a.2 0 :: ptC (r ++ [z])) = (a.1 ++ (em a.2 0 :: ptC r)) ++ _
    rw [ptC_ap z r, List.append_assoc]; rfl
theorem PtM_ap (z : List Int32 × Nat) : ∀ (pl : List (List Int32 × Nat)) (mk st : Nat), PtM τ mk st pl → (τ.2.2.1 41 (mk + 3 * pl.length) = nI (st + (ptC pl).length) ∧ τ.2.2.1 41 (mk + 3 * pl.length + 1) = nI (st + (ptC pl).length + z.1.length) ∧ τ.2.2.1 41 (mk + 3 * pl.length + 2) = nI z.2) → PtM τ mk st (pl ++ [z])
  | [], k0, st, _, h => ⟨h, trivial⟩
  | a :: r, k0, st, hp, h => by
    have el : (a :: r).length = r.length + 1 := rfl
    have ec : (ptC (a :: r)).length = a.1.length + ((ptC r).length + 1) := by
      show (a.1 ++ (em a.2 0 :: ptC r)).length = _
      rw [List.length_append]; rfl
    refine ⟨hp.1, PtM_ap z r (k0 + 3) (st + a.1.length + 1) hp.2 ?_⟩
    rw [el, ec] at h
    rw [show k0 + 3 + 3 * r.length = k0 + 3 * (r.length + 1) by omega, show st + a.1.length + 1 + (ptC r).length = st + (a.1.length + ((ptC r).length + 1)) by omega]
    exact h
theorem PtG_ap (z : List Int32 × Nat) (hz : (z.2 = 96 ∧ Sgm u p gl Vm 1 z.1) ∨ (z.2 = 98 ∧ Sgm u p gl Vm 1 z.1) ∨ (z.2 = 97 ∧ Sgm u p gl Vm 2 z.1)) : ∀ (pl : List (List Int32 × Nat)), PtG u p gl Vm pl → PtG u p gl Vm (pl ++ [z])
  | [], _ => ⟨hz, trivial⟩
  | a :: r, h => ⟨h.1, PtG_ap z hz r h.2⟩
/-- what is known of a target while its parts are read -/
def TgLp (T : Nat → Int32) (n u p : Nat) (gl : Nat × (Nat → Nat → Prop)) (Vm : Nat → Prop) (tb : List Ent) (q sz mk : Nat) (cs : List Int32) (i c : Nat) (nx : Int32) (τ : CS) : Prop := (i = 0 ∧ nx = -1) ∨ (¬ i = 0 ∧ ∃ (nm : Nat) (ld : Int32) (pl : List (List Int32 × Nat)), nx = nI nm ∧ LkI tb (tkS T n q) nm ∧ cs = ld :: ptC pl ∧ PtM τ mk (sz + 1) pl ∧ PtG u p gl Vm pl ∧ pl.length = c)
theorem n_mn {k : Nat} (h : k < 2147483648) : ¬ nI k = -1 := fun z => by
  have z' := congrArg uN z
  rw [u_n (by omega)] at z'
  have : uN (-1 : Int32) = 4294967295 := by decide
  omega
/-- a part, where one int more has been laid -/
theorem c_partW {e0 szb : Nat} {x : Fl (Nat × Nat × Nat × Nat × BT)} (px : PXp T n b u al f e) (h : QS T n b u al tb o q v mk p sz σ) (ev : EvX E b u al gl Vm tb σ) (bd : BdX n o q v mk p szb tb.length) (hsz : sz ≤ szb + 1) (hk : tkK T n q = 6 ∨ tkK T n q = 8) (hG : gPt T n f E o q v e0 bt = some x) (hd : ¬ o = 20 → 6 * (20 - (o + 1)) + 8 ≤ e) : Tm (fun k => f_F2 k (e + 1) 9 0 L σ) (QPo b u tb.length sz mk x (PtR T n b u al gl Vm tb o mk p sz q v) σ 0 0) := by
  have s0 := Sy_0 h
  have go := tk_go h
  have g1 := go.2.2 (by omega)
  have hop : (¬ (¬ o = 20 ∧ ¬ tkK T n (tkN T n q) = 0) ∧ x = Sum.inl (oF T n o q)) ∨ ((¬ o = 20 ∧ ¬ tkK T n (tkN T n q) = 0) ∧ pb (G T n f 0 E (o + 1) (tkN T n q) v 0 0 0 0 bt) (fun r =>
    if tkK T n q = 6 ∧ tkK T n r.1 = 16 then pT T n r.1 (fun q2 => pb (G T n f 0 E (o + 1) q2 r.2.1 0 0 0 0 r.2.2.2.2.1) (fun s => pW T n 7 s.1 (fun q3 => some (Sum.inr (q3, s.2.1, 97, s.2.2.2.2.1.1, bSet (bOver s.2.2.2.2.1 22 0 e0 (nI r.2.2.2.1)) 8 s.2.2.2.2.1.1 (nI s.2.2.2.1))))))
    else pW T n (if tkK T n q = 8 then 9 else 7) r.1 (fun q2 => some (Sum.inr (q2, r.2.1, (if tkK T n q = 8 then 98 else 96), r.2.2.2.2.1.1, bOver r.2.2.2.2.1 (if tkK T n q = 8 then 23 else 21) 0 e0 (nI r.2.2.2.1))))) = some x) := by
    unfold gPt at hG
    by_cases c1 : o = 20
    · rw [if_pos c1] at hG
      exact Or.inl ⟨fun z => z.1 c1, oF_a c1 (Option.some.inj hG).symm⟩
    · rw [if_neg c1] at hG
      rcases pT_any hG with ⟨w1, w2⟩ | ⟨w1, w2⟩
      · exact Or.inl ⟨fun z => z.2 w1, oF_b c1 w2⟩
      · exact Or.inr ⟨⟨c1, w1⟩, w2⟩
  by_cases k8 : tkK T n q = 8
  · refine Tm_suc (fun k => pt_0 k _ _ _) ?_
    refine Tm_yes ((lx_k (kk := 8) h (by decide)).2 k8) ?_
    refine st_opens s0 hop (fun τ1 ret n1 n2 c1 s1 => ?_)
    refine Tm_d ?_
    have o20 : ¬ o = 20 := fun z => by
      have := s1.1.1.2.2.2.2.2.1.2
      omega
    rcases pb_any c1 with ⟨yf, w1, w2⟩ | ⟨r0, w1, w2⟩
    · exact st_exp (C := True) px (Or.inl ⟨rfl, rfl⟩) s1 (EvX_k ev s1.1.2.1) (BdX_g bd (by omega) go.2.1 (by omega) (Nat.le_refl _) (by show 2 * (sz + 0) + _ ≤ _; omega)) rfl (hd o20) w1 (Or.inl ⟨_, rfl, w2⟩) (fun _ _ _ _ _ _ z => by cases z)
    · refine st_exp (C := True) px (Or.inl ⟨rfl, rfl⟩) s1 (EvX_k ev s1.1.2.1) (BdX_g bd (by omega) go.2.1 (by omega) (Nat.le_refl _) (by show 2 * (sz + 0) + _ ≤ _; omega)) rfl (hd o20) w1 (Or.inr ⟨r0, rfl, trivial⟩) (fun τ2 ret2 m1 m2 r ll hz _ s2 xk sg ln lt lv tg => ?_)
      cases hz
      rw [if_neg (fun z => by omega), if_pos k8] at w2
      have go2 := tk_go s2.1.1
      have y9 := pW_any w2
      refine st_closes (kk := 9) s2 (by decide) rfl y9 (fun τ3 ret3 l1 l2 c3 s3 => ?_)
      rw [if_pos k8] at c3
      cases c3
      have k9 : tkK T n r0.1 = 9 := by
        rcases y9 with ⟨y1, y2⟩ | ⟨y1, _⟩
        · cases y2
        · exact y1.1
      have g3 := go2.2.2 (by omega)
      refine Tm_some (Qfin s3.1 ⟨rfl, ll, s3.1.1, s3.2, Or.inr (Or.inl ⟨rfl, sg⟩), ?_, ?_, lv⟩)
      · show 2 * ll.length + 2 ≤ 3 * (tkN T n r0.1 - q)
        omega
      · show q < tkN T n r0.1
        omega
  · have k6 : tkK T n q = 6 := by omega
    have b2 : ∀ (L' : LV) (τ' : CS) (a1 a2 kd : Nat) (ll : List Int32) (q2 v2 : Nat) (w : Nat × BT), L'.1 1 = nI kd → Sy T n b u al σ tb.length sz mk a1 a2 tb (o + 1) q2 v2 mk p sz ll τ' → ((kd = 96 ∧ Sgm u p gl Vm 1 ll) ∨ (kd = 97 ∧ Sgm u p gl Vm 2 ll)) → pW T n 7 q2 (fun q3 => some (Sum.inr (q3, v2, kd, w))) = some x → 2 * ll.length ≤ 3 * (q2 - q) → q < q2 → v ≤ v2 → Tm (fun k => f_F2 k (e + 1) 9 2 L' τ') (QPo b u tb.length sz mk x (PtR T n b u al gl Vm tb o mk p sz q v) σ a1 a2) := by
      intro L' τ' a1 a2 kd ll q2 v2 w l1 s2 sg hw ln lt lv
      have go2 := tk_go s2.1.1
      have y9 := pW_any hw
      refine Tm_suc (fun k => pt_2 k _ _ _) ?_
      refine st_closes (kk := 7) s2 (by decide) rfl y9 (fun τ3 ret3 l1' l2 c3 s3 => ?_)
      have k7 : tkK T n q2 = 7 := by
        rcases y9 with ⟨y1, y2⟩ | ⟨y1, _⟩
        · rw [y2] at c3; cases c3
        · exact y1.1
      cases c3
      have g3 := go2.2.2 (by omega)
      refine Tm_some (Qfin s3.1 ⟨l1, ll, s3.1.1, s3.2, ?_, ?_, ?_, lv⟩)
      · rcases sg with ⟨z1, z2⟩ | ⟨z1, z2⟩
        · exact Or.inl ⟨z1, z2⟩
        · exact Or.inr (Or.inr ⟨z1, z2⟩)
      · show 2 * ll.length + 2 ≤ 3 * (tkN T n q2 - q)
        omega
      · show q < tkN T n q2
        omega
    refine Tm_suc (fun k => pt_0 k _ _ _) ?_
    refine Tm_no (fun z => k8 ((lx_k (kk := 8) h (by decide)).1 z)) ?_
    refine Tm_suc (fun k => pt_1 k _ _ _) ?_
    refine st_opens s0 hop (fun τ1 ret n1 n2 c1 s1 => ?_)
    refine Tm_d ?_
    have o20 : ¬ o = 20 := fun z => by
      have := s1.1.1.2.2.2.2.2.1.2
      omega
    rcases pb_any c1 with ⟨yf, w1, w2⟩ | ⟨r0, w1, w2⟩
    · exact st_exp (C := True) px (Or.inl ⟨rfl, rfl⟩) s1 (EvX_k ev s1.1.2.1) (BdX_g bd (by omega) go.2.1 (by omega) (Nat.le_refl _) (by show 2 * (sz + 0) + _ ≤ _; omega)) rfl (hd o20) w1 (Or.inl ⟨_, rfl, w2⟩) (fun _ _ _ _ _ _ z => by cases z)
    · refine st_exp (C := True) px (Or.inl ⟨rfl, rfl⟩) s1 (EvX_k ev s1.1.2.1) (BdX_g bd (by omega) go.2.1 (by omega) (Nat.le_refl _) (by show 2 * (sz + 0) + _ ≤ _; omega)) rfl (hd o20) w1 (Or.inr ⟨r0, rfl, trivial⟩) (fun τ2 ret2 m1 m2 r ll hz _ s2 xk sg ln lt lv tg => ?_)
      cases hz
      have go2 := tk_go s2.1.1
      have s2' : Sy T n b u al σ tb.length sz mk (0 + n1 + m1) (0 + n2 + m2) tb (o + 1) r0.1 r0.2.1 mk p sz ll τ2 := s2
      by_cases k16 : tkK T n r0.1 = 16
      · rw [if_pos ⟨k6, k16⟩] at w2
        refine Tm_yes ((lx_k (kk := 16) s2.1.1 (by decide)).2 k16) ?_
        refine st_advY s2' (pT_any w2) (fun τ3 r3 er c3 s3 => ?_)
        refine Tm_d ?_
        rw [er]
        have g2 := go2.2.2 (by omega)
        have bd3 : BdX n (o + 1) (tkN T n r0.1) r0.2.1 mk p (sz + ll.length) tb.length := BdX_g bd (by omega) go2.2.1 (by omega) lv (by omega)
        rcases pb_any c3 with ⟨yf, y1, y2⟩ | ⟨r4, y1, y2⟩
        · exact st_exp (C := True) px (Or.inl ⟨rfl, rfl⟩) s3 (EvX_k ev s3.1.2.1) bd3 rfl (hd o20) y1 (Or.inl ⟨_, rfl, y2⟩) (fun _ _ _ _ _ _ z => by cases z)
        · refine st_exp (C := True) px (Or.inl ⟨rfl, rfl⟩) s3 (EvX_k ev s3.1.2.1) bd3 rfl (hd o20) y1 (Or.inr ⟨r4, rfl, trivial⟩) (fun τ5 ret5 p1 p2 r5 l5 hz5 _ s5 xk5 sg5 ln5 lt5 lv5 tg5 => ?_)
          cases hz5
          refine b2 _ τ5 _ _ 97 (ll ++ l5) r4.1 r4.2.1 _ rfl s5 (Or.inr ⟨rfl, Sgm_seq sg sg5⟩) y2 ?_ (by omega) (by omega)
          rw [List.length_append]
          omega
      · rw [if_neg (fun z => k16 z.2), if_neg k8, if_neg k8, if_neg k8] at w2
        refine Tm_no (fun z => k16 ((lx_k (kk := 16) s2.1.1 (by decide)).1 z)) ?_
        exact b2 _ τ2 _ _ 96 ll r0.1 r0.2.1 _ rfl s2' (Or.inl ⟨rfl, sg⟩) w2 (by omega) (by omega) lv
theorem opn_0 (k d : Nat) (L : LV) (σ : CS) : f_F2 (k + 1) d 8 0 L σ = (of d (fun e1 => ox (f_F2 k e1 10 0 lZ σ) (fun r1 => f_F2 k d 8 1 (lI (lI (lI (lI (lI L 1 ((σ.1 3703))) 2 ((σ.1 4011))) 3 r1.1.2) 4 0) 5 0) r1.2.1))) := rfl
theorem opn_1 (k d : Nat) (L : LV) (σ : CS) : f_F2 (k + 1) d 8 1 L σ = (if 32768 < ((L.1 5)) then (f_F2 k d 8 2 L σ) else (if ((σ.1 3702)) = 10 then (f_F2 k d 8 3 L σ) else (if ((σ.1 3702)) = 12 then (f_F2 k d 8 3 L σ) else (f_F2 k d 8 2 L σ)))) := rfl
theorem opn_2 (k d : Nat) (L : LV) (σ : CS) : f_F2 (k + 1) d 8 2 L σ = (if ((L.1 3)) = ((-1)) then (f_F2 k d 8 5 (lI L 100 ((-1))) σ) else (f_F2 k d 8 4 L σ)) := rfl
theorem opn_3 (k d : Nat) (L : LV) (σ : CS) : f_F2 (k + 1) d 8 3 L σ = (oP (sPp σ) (fun b1 => of d (fun e2 => ox (f_F2 k e2 9 0 lZ σ) (fun r2 => ox (f_X5_mark k 0 (lI lZ 1 ((σ.1 (fP b1 1)))) r2.2.1) (fun r3 => oP (sPp r3.2.1) (fun b4 => ox (f_X5_mark k 0 (lI lZ 1 ((r3.2.1.1 (fP b4 1)))) r3.2.1) (fun r5 => ox (f_X5_mark k 0 (lI lZ 1 r2.1.2) r5.2.1) (fun r6 => oP (sPp r6.2.1) (fun b7 => ox (f_X7_emit__P k 0 (lI (lI (lB lZ 0 b7) 1 r2.1.2) 2 0) r6.2.1) (fun r8 => f_F2 k d 8 1 (lI (lI L 4 ((((L.1 4)) + 1))) 5 ((((L.1 5)) + 1))) r8.2.1)))))))))) := rfl
theorem opn_4 (k d : Nat) (L : LV) (σ : CS) : f_F2 (k + 1) d 8 4 L σ = (f_F2 k d 8 5 (lI L 100 ((L.1 1))) σ) := rfl
theorem opn_5 (k d : Nat) (L : LV) (σ : CS) : f_F2 (k + 1) d 8 5 L σ = (oP (sPp (uI σ 4016 ((L.1 100)))) (fun b1 => f_F2 k d 8 6 L (uI (uI (uI σ 4016 ((L.1 100))) 4017 (((uI σ 4016 ((L.1 100))).1 (fP b1 1)))) 4018 ((L.1 2))))) := rfl
theorem opn_6 (k d : Nat) (L : LV) (σ : CS) : f_F2 (k + 1) d 8 6 L σ = (f_F2 k d 8 7 L (uI (uI (uI σ 4019 ((L.1 4))) 4020 ((L.1 3))) 4011 ((L.1 2)))) := rfl
theorem opn_7 (k d : Nat) (L : LV) (σ : CS) : f_F2 (k + 1) d 8 7 L σ = (some ((0, 0), σ, (0, 0))) := rfl
theorem c_operand {x : Fl RT} (px : ∀ f', f' < f → ∀ e', PXp T n b u al f' e') (h : QS T n b u al tb o q v mk p sz σ) (ev : EvX E b u al gl Vm tb σ) (bd : BdX n o q v mk p sz tb.length) (hG : gb (G T n f 13 E o q v 0 0 0 0 bt) (fun r => G T n f 12 E o r.1 r.2.1 r.2.2.1 r.2.2.2.1 0 0 r.2.2.2.2.1) = some x) (hd0 : ¬ o = 20 → 6 * (20 - (o + 1)) + 8 ≤ e) : Tm (fun k => f_F2 k (e + 5) 8 0 L σ) (QPo b u tb.length sz mk x (fun r _ τ => XR T n b u al gl Vm tb o mk p sz q v r τ ∧ (r.2.2.1 = 0 → τ.1 4016 = -1)) σ 0 0) := by
  have s0 := Sy_0 h
  have go := tk_go h
  obtain ⟨n10, b22, b33, b44, b55⟩ := bd
  have e03 : σ.1 3703 = nI q := h.1.2.2.2.2.2.2.1
  have e11 : σ.1 4011 = nI mk := h.2.2.1.1
  have o20 := h.2.2.2.2.2.1.2
  -- the end
  have b5 : ∀ (L' : LV) (τ : CS) (a1 a2 i c : Nat) (r : RT) (ca : List Int32), L'.1 1 = nI q → L'.1 2 = nI mk → L'.1 4 = nI c → Sy T n b u al σ tb.length sz mk a1 a2 tb o r.1 r.2.1 (mk + 3 * c) p sz ca τ → Sgm u p gl Vm 1 ca → 2 * ca.length ≤ 3 * (r.1 - q) + 1 → q < r.1 → v ≤ r.2.1 → r.2.2.1 = i → TgLp T n u p gl Vm tb q sz mk ca i c (L'.1 3) τ → (i = 0 → L'.1 100 = -1) → (¬ i = 0 → L'.1 100 = nI q) → Tm (fun k => f_F2 k (e + 5) 8 5 L' τ) (QPo b u tb.length sz mk (Sum.inr r) (fun r _ τ => XR T n b u al gl Vm tb o mk p sz q v r τ ∧ (r.2.2.1 = 0 → τ.1 4016 = -1)) σ a1 a2) := by
    intro L' τ a1 a2 i c r ca l1 l2 l4 s sg ln lt lv hi tg la lb
    have fc := fP_c b 19
    have fc1 := fP_c b 1
    refine Tm_suc (fun k => opn_5 k _ _ _) ?_
    have pp : sPp τ = some b := Sy_pp s
    refine Tm_oP (show sPp (uI τ 4016 (L'.1 100)) = some b from pp) ?_
    have ez : (uI τ 4016 (L'.1 100)).1 (fP b 1) = nI (sz + ca.length) := by
      rw [uI_o (by omega)]; exact s.1.1.2.1.1
    rw [ez, l2]
    refine Tm_suc (fun k => opn_6 k _ _ _) ?_
    rw [l4, l2]
    refine Tm_suc (fun k => opn_7 k _ _ _) ?_
    generalize hτ' : uI (uI (uI (uI (uI (uI τ 4016 (L'.1 100)) 4017 (nI (sz + ca.length))) 4018 (nI mk)) 4019 (nI c)) 4020 (L'.1 3)) 4011 (nI mk) = τ'
    have r2 : τ'.2 = τ.2 := by rw [← hτ']; rfl
    have f1 : ∀ j, ¬ ((4016 ≤ j ∧ j ≤ 4020) ∨ j = 4011) → τ'.1 j = τ.1 j := fun j hj => by
      rw [← hτ', uI_o (by omega), uI_o (by omega), uI_o (by omega), uI_o (by omega), uI_o (by omega), uI_o (by omega)]
    have g16 : τ'.1 4016 = L'.1 100 := by rw [← hτ', uI_o (by decide), uI_o (by decide), uI_o (by decide), uI_o (by decide), uI_o (by decide), uI_s]
    have g17 : τ'.1 4017 = nI (sz + ca.length) := by rw [← hτ', uI_o (by decide), uI_o (by decide), uI_o (by decide), uI_o (by decide), uI_s]
    have g18 : τ'.1 4018 = nI mk := by rw [← hτ', uI_o (by decide), uI_o (by decide), uI_o (by decide), uI_s]
    have g19 : τ'.1 4019 = nI c := by rw [← hτ', uI_o (by decide), uI_o (by decide), uI_s]
    have g20 : τ'.1 4020 = L'.1 3 := by rw [← hτ', uI_o (by decide), uI_s]
    have g11 : τ'.1 4011 = nI mk := by rw [← hτ', uI_s]
    have s' : Sx T n b u al σ tb.length sz mk a1 a2 tb o r.1 r.2.1 mk p (sz + ca.length) τ' := Sx_f s.1 (fun j hj => f1 j (by omega)) r2 (by rw [f1 _ (by omega)]; exact s.1.1.2.2.2.2.2.1.1) o20 g11 (by omega) (Nat.le_refl _) (by rw [f1 _ (by omega)]; exact s.1.1.2.2.2.2.2.2.2)
    have q1n := (tk_go s.1.1).1
    refine Tm_some (Qfin s' ⟨⟨ca, s'.1, fun j hj => ?_, sg, ln, lt, lv, fun z => ?_, fun z => ?_⟩, fun z => g16.trans (la (hi ▸ z))⟩)
    · have := s.2 j hj
      have kd : sKd τ' b = sKd τ b := by show τ'.2.2.2.2.2.1.2.2.2.2 b = _; rw [r2]
      show τ'.2.2.1 (pR0 (sKd τ' b)) (sz + j) = _
      rw [kd, r2]
      exact this
    · rw [g16, la (hi ▸ z)]
      exact fun y => n_mn (by omega) y.symm
    · rcases tg with ⟨t1, t2⟩ | ⟨t1, nm, ld, pl, t2, t3, t4, t5, t6, t7⟩
      · exact absurd (hi.trans t1) z
      · refine ⟨⟨by rw [g16]; exact lb t1, g17, g18⟩, nm, ld, pl, ⟨by rw [g20]; exact t2, by rw [g19, t7]⟩, t3, t4, PtM_k pl mk (sz + 1) (fun i _ => by rw [r2]) t5, t6, by
          have e41 : sN τ' 41 = sN τ 41 := by show τ'.2.2.2.2.1 41 = _; rw [r2]
          have m1 := s.1.1.2.2.1.2.1
          rw [e41, t7]; exact m1⟩
  -- the parts
  have b1 : ∀ (f1 : Nat), f1 ≤ f → ∀ (L' : LV) (τ : CS) (a1 a2 q1 v1 i1 e1 c : Nat) (bt1 : BT) (ca : List Int32), G T n f1 12 E o q1 v1 i1 e1 0 0 bt1 = some x → L'.1 1 = nI q → L'.1 2 = nI mk → L'.1 4 = nI c → L'.1 5 = nI c → Sy T n b u al σ tb.length sz mk a1 a2 tb o q1 v1 (mk + 3 * c) p sz ca τ → Sgm u p gl Vm 1 ca → 2 * ca.length ≤ 3 * (q1 - q) + 1 → 3 * c ≤ 2 * (q1 - q) → q < q1 → v ≤ v1 → TgLp T n u p gl Vm tb q sz mk ca i1 c (L'.1 3) τ → Tm (fun k => f_F2 k (e + 5) 8 1 L' τ) (QPo b u tb.length sz mk x (fun r _ τ => XR T n b u al gl Vm tb o mk p sz q v r τ ∧ (r.2.2.1 = 0 → τ.1 4016 = -1)) σ a1 a2) := by
    intro f1
    induction f1 with
    | zero =>
      intro _ L' τ a1 a2 q1 v1 i1 e1 c bt1 ca hg
      exact absurd hg (by intro z; cases z)
    | succ f1 ih =>
      intro hf L' τ a1 a2 q1 v1 i1 e1 c bt1 ca hg l1 l2 l4 l5 s sg ln lm lt lv tg
      have go1 := tk_go s.1.1
      have q1n := go1.1
      refine Tm_suc (fun k => opn_1 k _ _ _) ?_
      refine Tm_no ?_ ?_
      · rw [l5]
        show ¬ nI 32768 < nI c
        rw [u_ltn (by decide) (by rw [u_n (by omega)]; omega), u_n (by decide), u_n (by omega)]
        omega
      have bp : (tkK T n q1 = 6 ∨ tkK T n q1 = 8) → Tm (fun k => f_F2 k (e + 5) 8 3 L' τ) (QPo b u tb.length sz mk x (fun r _ τ => XR T n b u al gl Vm tb o mk p sz q v r τ ∧ (r.2.2.1 = 0 → τ.1 4016 = -1)) σ a1 a2) := by
        intro kp
        rw [G12_p kp] at hg
        have es : τ.1 (fP b 1) = nI (sz + ca.length) := s.1.1.2.1.1
        refine Tm_suc (fun k => opn_3 k _ _ _) ?_
        refine Tm_oP (Sy_pp s) ?_
        refine Tm_d ?_
        rw [es]
        have hz : ∃ z, gPt T n f1 E o q1 v1 e1 bt1 = some z := by
          rcases pb_any hg with ⟨yf, y1, _⟩ | ⟨r4, y1, _⟩
          · exact ⟨_, y1⟩
          · exact ⟨_, y1⟩
        obtain ⟨z, hz⟩ := hz
        have bdp : BdX n o q1 v1 (mk + 3 * c) p (sz + ca.length - 1) tb.length := ⟨n10, by omega, by omega, by omega, by omega⟩
        refine st_call (C := True) s.1 (c_partW (px f1 (by omega) (e + 3)) s.1.1 (EvX_k ev s.1.2.1) bdp (by omega) kp hz (fun z => by have := hd0 z; omega)) ?_
        rcases pb_any hg with ⟨yf, y1, y2⟩ | ⟨r, y1, y2⟩
        · rw [hz] at y1
          exact Or.inl ⟨_, Option.some.inj y1, y2⟩
        rw [hz] at y1
        refine Or.inr ⟨r, Option.some.inj y1, trivial, fun τ3 ret3 m3 m4 hr xk3 hc3 => ?_⟩
        obtain ⟨er, ll, i1', i2, sgp, ln3, lt3, lv3⟩ := hr
        have s3 := Sy_ca s i1' xk3 hc3 i2 (Nat.le_refl _) s.1.2.2.2.2.2
        have mk3 := xk3.2.2.2.2.2.2.1
        have q3n := (tk_go s3.1.1).1
        have la : (ca ++ ll).length = ca.length + ll.length := List.length_append
        have ll1 : 1 ≤ ll.length := by
          rcases sgp with z | z | z
          · exact z.2.1
          · exact z.2.1
          · have := z.2.1; omega
        have kd256 : r.2.2.1 < 256 ∧ (r.2.2.1 = 96 ∨ r.2.2.1 = 98 ∨ r.2.2.1 = 97) := by
          rcases sgp with z | z | z <;> omega
        refine st_mark s3 (by omega) (fun τ4 x1 x2 s4 k4 w4 => ?_)
        refine Tm_oP (Sy_pp s4) ?_
        have es4 : τ4.1 (fP b 1) = nI (sz + (ca ++ ll).length) := s4.1.1.2.1.1
        rw [es4]
        refine st_mark s4 (by omega) (fun τ5 x3 x4 s5 k5 w5 => ?_)
        refine st_mark s5 (by omega) (fun τ6 x5 x6 s6 k6 w6 => ?_)
        refine Tm_oP (Sy_pp s6) ?_
        refine st_emitF (op := r.2.2.1) s6 rfl er (by rw [la]; omega) (fun τ7 x7 x8 s7 k7' _ => ?_)
        have k7 := k7'.1
        have lb : (ca ++ ll ++ [em r.2.2.1 0]).length = ca.length + ll.length + 1 := by rw [List.length_append, la]; rfl
        have sg7 : Sgm u p gl Vm 1 (ca ++ ll ++ [em r.2.2.1 0]) := by
          rcases sgp with z | z | z
          · rw [z.1]; exact Sgm_ap (m := 2) (Sgm_seq sg z.2) (by decide) (by rw [la]; show 1 ≤ _ + 1; omega) It_p1
          · rw [z.1]; exact Sgm_ap (m := 2) (Sgm_seq sg z.2) (by decide) (by rw [la]; show 1 ≤ _ + 1; omega) It_pa
          · rw [z.1]; exact Sgm_ap (m := 3) (Sgm_seq sg z.2) (by decide) (by rw [la]; show 1 ≤ _ + 1; omega) It_pr
        have s7' : Sy T n b u al σ tb.length sz mk (a1 + m3 + x1 + x3 + x5 + x7) (a2 + m4 + x2 + x4 + x6 + x8) tb o r.1 r.2.1 (mk + 3 * (c + 1)) p sz (ca ++ ll ++ [em r.2.2.1 0]) τ7 := by
          rw [show mk + 3 * (c + 1) = mk + 3 * c + 1 + 1 + 1 by omega]; exact s7
        have m0 : τ7.2.2.1 41 (mk + 3 * c) = nI (sz + ca.length) := by rw [k7, k6 _ (by omega), k5 _ (by omega)]; exact w4
        have m1 : τ7.2.2.1 41 (mk + 3 * c + 1) = nI (sz + (ca ++ ll).length) := by rw [k7, k6 _ (by omega)]; exact w5
        have m2 : τ7.2.2.1 41 (mk + 3 * c + 2) = nI r.2.2.1 := by rw [k7]; exact w6.trans er
        refine ih (by omega) _ τ7 _ _ r.1 r.2.1 _ _ (c + 1) _ _ y2 l1 l2 ?_ ?_ s7' sg7 (by rw [lb]; omega) (by omega) (by omega) (by omega) ?_
        · show L'.1 4 + 1 = _
          rw [l4, n_add1]
        · show L'.1 5 + 1 = _
          rw [l5, n_add1]
        · rcases tg with ⟨t1, t2⟩ | ⟨t1, nm, ld, pl, t2, t3, t4, t5, t6, t7⟩
          · exact Or.inl ⟨if_pos t1, t2⟩
          · refine Or.inr ⟨by rw [if_neg t1]; decide, nm, ld, pl ++ [(ll, r.2.2.1)], t2, t3, ?_, ?_, PtG_ap _ sgp pl t6, by rw [List.length_append, t7]; rfl⟩
            · rw [ptC_ap, t4, List.append_assoc]; rfl
            · have lc : ca.length = (ptC pl).length + 1 := by rw [t4]; rfl
              refine PtM_ap _ pl mk (sz + 1) (PtM_k pl mk (sz + 1) (fun i hi => ?_) t5) ⟨?_, ?_, ?_⟩
              · rw [t7] at hi
                rw [k7, k6 _ (by omega), k5 _ (by omega), k4 _ (by omega)]
                exact mk3 i (by omega)
              · rw [t7, m0]; exact congrArg nI (by omega)
              · rw [t7, m1, la]; exact congrArg nI (by show _ = sz + 1 + (ptC pl).length + ll.length; omega)
              · rw [t7]; exact m2
      by_cases k6 : tkK T n q1 = 6
      · refine Tm_yes ((lx_k (kk := 6) s.1.1 (by decide)).2 k6) ?_
        exact bp (Or.inl k6)
      refine Tm_no (fun z => k6 ((lx_k (kk := 6) s.1.1 (by decide)).1 z)) ?_
      by_cases k8 : tkK T n q1 = 8
      · refine Tm_yes ((lx_k (kk := 8) s.1.1 (by decide)).2 k8) ?_
        exact bp (Or.inr k8)
      refine Tm_no (fun z => k8 ((lx_k (kk := 8) s.1.1 (by decide)).1 z)) ?_
      rw [G_12, if_neg (fun z => by omega)] at hg
      rw [← Option.some.inj hg]
      refine Tm_suc (fun k => opn_2 k _ _ _) ?_
      rcases tg with ⟨t1, t2⟩ | ⟨t1, nm, ld, pl, t2, t3⟩
      · refine Tm_yes t2 ?_
        exact b5 _ τ _ _ i1 c _ ca l1 l2 l4 s sg ln lt lv rfl (Or.inl ⟨t1, t2⟩) (fun _ => rfl) (fun z => absurd t1 z)
      · have n256 := t3.1.1
        have t256 := s.1.1.2.2.2.1.2.1
        refine Tm_no (fun z => n_mn (k := nm) (by omega) (t2.symm.trans z)) ?_
        refine Tm_suc (fun k => opn_4 k _ _ _) ?_
        exact b5 _ τ _ _ i1 c _ ca l1 l2 l4 s sg ln lt lv rfl (Or.inr ⟨t1, nm, ld, pl, t2, t3⟩) (fun z => absurd z t1) (fun _ => l1)
  rcases f with _ | f0
  · exact absurd hG (by intro z; cases z)
  refine Tm_suc (fun k => opn_0 k _ _ _) ?_
  refine Tm_d ?_
  obtain ⟨z, hz⟩ := gb_some hG
  refine st_call (C := True) s0.1 (c_primary (e := e) (fun f' hf' => px f' (by omega)) h ev ⟨n10, b22, b33, b44, b55⟩ hz hd0) ?_
  rcases gb_any hG with ⟨yf, y1, y2⟩ | ⟨r, y1, y2⟩
  · rw [hz] at y1
    exact Or.inl ⟨_, Option.some.inj y1, y2⟩
  rw [hz] at y1
  refine Or.inr ⟨r, Option.some.inj y1, trivial, fun τ3 ret3 m3 m4 hr xk3 hc3 => ?_⟩
  obtain ⟨ll, i1, i2, sg, ln, lt, lv, i0⟩ := hr
  have s3 : Sy T n b u al σ tb.length sz mk (0 + m3) (0 + m4) tb o r.1 r.2.1 mk p sz ll τ3 := Sy_ca s0 i1 xk3 hc3 i2 (Nat.le_refl _) s0.1.2.2.2.2.2
  refine b1 (f0 + 1) (Nat.le_refl _) _ τ3 _ _ r.1 r.2.1 r.2.2.1 _ 0 _ ll y2 e03 e11 rfl rfl s3 sg ln (by omega) lt lv ?_
  rcases i0 with ⟨w1, w2⟩ | ⟨w1, i, ld, w2, w3, w4⟩
  · exact Or.inl ⟨w1, w2⟩
  · exact Or.inr ⟨by omega, i, ld, [], w2, w3, w4, trivial, trivial, rfl⟩
end CWA
end JnS468
section JnS469
/-! The class: operators that wait; they are settled. -/
section CWB
variable {σ σ' σ0 τ τ' : CS} {L : LV} {b : Bool} {T : Nat → Int32} {n q q' u al o v mk p sz szB nc0 sz0 mk0 a1 a2 m kk f e t o0 ls h : Nat} {y w : Int32} {l l' cs cs' : List Int32} {tb : List Ent} {α : Type} {S : α → Int32 → CS → Prop} {C : Prop} {E : En} {gl : Nat × (Nat → Nat → Prop)} {Vm : Nat → Prop} {bt : BT} {x : Fl α}
/-- an operator that waits: its level, its instruction, a jump's place or the way of a fold -/
abbrev Wt := Nat × Nat × Nat
def MkW (τ : CS) (fi : Nat) : List Wt → Prop
  | [] => True
  | e :: S => (τ.2.2.1 41 (fi + 3 * S.length) = nI e.1 ∧ τ.2.2.1 41 (fi + 3 * S.length + 1) = nI e.2.1 ∧ τ.2.2.1 41 (fi + 3 * S.length + 2) = nI e.2.2) ∧ MkW τ fi S
def wT : List Wt → Nat
  | [] => 0
  | e :: S => wT S + (if 3 ≤ e.1 ∧ e.1 ≤ 6 then 1 else 0)
def wO : List Wt → Nat
  | [] => 0
  | e :: S => wO S + (if e.1 = 2 ∨ 6 ≤ e.1 then 1 else 0)
def wU : List Wt → Nat
  | [] => 0
  | e :: S => wU S + (if e.1 = 2 ∨ 6 ≤ e.1 then 0 else 1)
def wP : List Wt → Nat
  | [] => 0
  | e :: S => wP S + (if e.2.1 = 112 then 2 else 1)
def wH (szB : Nat) : List Wt → List (Nat × Nat × Nat)
  | [] => []
  | e :: S => if e.1 ≤ 1 then (e.2.2 - szB, 7 - e.1, wT S) :: wH szB S else wH szB S
def wOk (szB : Nat) (cs : List Int32) : List Wt → Prop
  | [] => True
  | e :: S => ((e.1 ≤ 1 ∧ e.2.1 = 8 ∧ szB ≤ e.2.2 ∧ e.2.2 - szB < cs.length ∧ ∃ x, cs.getD (e.2.2 - szB) 0 = em (7 - e.1) x) ∨ (e.1 = 2 ∧ e.2.1 = 9) ∨ (3 ≤ e.1 ∧ e.1 ≤ 6 ∧ 128 ≤ e.2.1 ∧ e.2.1 < 144) ∨ (e.1 = 7 ∧ (e.2.1 = 160 ∨ e.2.1 = 161 ∨ e.2.1 = 112))) ∧ wOk szB cs S
theorem MkW_k : ∀ (S : List Wt) (fi : Nat), (∀ i, i < fi + 3 * S.length → τ'.2.2.1 41 i = τ.2.2.1 41 i) → MkW τ fi S → MkW τ' fi S
  | [], _, _, _ => trivial
  | e :: S, fi, h, z => by
    have el : (e :: S).length = S.length + 1 := rfl
    obtain ⟨⟨z1, z2, z3⟩, z4⟩ := z
    exact ⟨⟨by rw [h _ (by omega)]; exact z1, by rw [h _ (by omega)]; exact z2, by rw [h _ (by omega)]; exact z3⟩, MkW_k S fi (fun i hi => h i (by omega)) z4⟩
theorem wOk_ap : ∀ S : List Wt, wOk szB cs S → wOk szB (cs ++ l) S
  | [], _ => trivial
  | e :: S, h => by
    refine ⟨?_, wOk_ap S h.2⟩
    rcases h.1 with ⟨h1, h2, h3, h4, x, h5⟩ | z
    · exact Or.inl ⟨h1, h2, h3, by rw [List.length_append]; omega, x, by rw [gd_l h4]; exact h5⟩
    · exact Or.inr z
theorem wOk_set {y : Int32} : ∀ S : List Wt, wOk szB cs S → (∀ e, e ∈ wH szB S → ¬ e.1 = h) → wOk szB (cs.set h y) S
  | [], _, _ => trivial
  | e :: S, k, hn => by
    have sub : ∀ a, a ∈ wH szB S → a ∈ wH szB (e :: S) := fun a ha => by
      show a ∈ (if e.1 ≤ 1 then (e.2.2 - szB, 7 - e.1, wT S) :: wH szB S else wH szB S)
      by_cases c : e.1 ≤ 1
      · rw [if_pos c]; exact List.mem_cons_of_mem _ ha
      · rw [if_neg c]; exact ha
    refine ⟨?_, wOk_set S k.2 (fun a ha => hn a (sub a ha))⟩
    rcases k.1 with ⟨h1, h2, h3, h4, x, h5⟩ | z
    · have ne : ¬ e.2.2 - szB = h := hn (e.2.2 - szB, 7 - e.1, wT S) (by
        show _ ∈ (if e.1 ≤ 1 then (e.2.2 - szB, 7 - e.1, wT S) :: wH szB S else wH szB S)
        rw [if_pos h1]; exact List.mem_cons_self)
      exact Or.inl ⟨h1, h2, h3, by rw [List.length_set]; exact h4, x, by rw [gd_set, if_neg (fun z => ne z.1)]; exact h5⟩
    · exact Or.inr z
/-- how an exp's loop stands: operators that wait, t values above what they have -/
def WA (T : Nat → Int32) (n : Nat) (b : Bool) (u al : Nat) (σ0 : CS) (tb : List Ent) (gl : Nat × (Nat → Nat → Prop)) (Vm : Nat → Prop) (o0 mk p sz a1 a2 : Nat) (S : List Wt) (q v : Nat) (cs : List Int32) (t : Nat) (τ : CS) : Prop := Sy T n b u al σ0 tb.length sz mk a1 a2 tb (o0 + wO S) q v (mk + 3 * S.length) p sz cs τ ∧ MkW τ mk S ∧ wOk sz cs S ∧ PKh u p gl Vm (wH sz S) (wT S + t) cs
/-- the same, but for what was before -/
def WQ (T : Nat → Int32) (n : Nat) (b : Bool) (u al : Nat) (tb : List Ent) (gl : Nat × (Nat → Nat → Prop)) (Vm : Nat → Prop) (o0 mk p sz : Nat) (S : List Wt) (q v : Nat) (cs : List Int32) (t : Nat) (τ : CS) : Prop := (QS T n b u al tb (o0 + wO S) q v (mk + 3 * S.length) p (sz + cs.length) τ ∧ ∀ i, i < cs.length → cdr b τ (sz + i) = cs.getD i 0) ∧ MkW τ mk S ∧ wOk sz cs S ∧ PKh u p gl Vm (wH sz S) (wT S + t) cs
theorem WA_q {s : List Wt} (h : WA T n b u al σ0 tb gl Vm o0 mk p sz a1 a2 s q v cs t τ) : WQ T n b u al tb gl Vm o0 mk p sz s q v cs t τ := ⟨⟨h.1.1.1, h.1.2⟩, h.2⟩
theorem WQ_a {s : List Wt} (h : WQ T n b u al tb gl Vm o0 mk p sz s q v cs t τ) (xk : XK b u tb.length sz mk σ0 τ) (c : a1 + PhC τ ≤ PhC σ0 ∧ a2 + PhS τ ≤ PhS σ0) : WA T n b u al σ0 tb gl Vm o0 mk p sz a1 a2 s q v cs t τ := ⟨⟨⟨h.1.1, xk, c, Nat.le_refl _, Nat.le_add_right _ _, Nat.le_add_right _ _⟩, h.1.2⟩, h.2⟩
/-- a call within that leaves marks and code of this method otherwise -/
theorem st_callB {β : Type} {z : Fl β} {R : β → Int32 → CS → Prop} {g : Nat → Option RS} {f : Nat → RS → Option RS} (t : Tm g (QPo b u nc0 sz0 mk0 z R σ0 a1 a2)) (hx : (∃ y, z = Sum.inl y ∧ x = Sum.inl y) ∨ ∃ s, z = Sum.inr s ∧ ∀ (τ' : CS) (ret : Int32) (n1 n2 : Nat), R s ret τ' → XK b u nc0 sz0 mk0 σ0 τ' → (a1 + n1 + PhC τ' ≤ PhC σ0 ∧ a2 + n2 + PhS τ' ≤ PhS σ0) → Tm (fun k => f k ((0, ret), τ', (n1, n2))) (QPo b u nc0 sz0 mk0 x S σ0 (a1 + n1) (a2 + n2))) : Tm (fun k => ox (g k) (f k)) (QPo b u nc0 sz0 mk0 x S σ0 a1 a2) := by
  refine Tm_ox t (fun r w nz => ?_) (fun r w e0 => ?_)
  · rcases hx with ⟨y0, e1, e2⟩ | ⟨s, e1, _⟩
    · rw [e2]
      exact ⟨fun _ z => (by cases z), fun y1 ye => by cases ye; exact w.2.1 y0 e1, fun z => absurd z nz, fun z => w.2.2.2.1 z, w.2.2.2.2⟩
    · exact absurd (w.1 s e1).1 nz
  · rcases hx with ⟨y0, e1, e2⟩ | ⟨s, e1, cont⟩
    · exact absurd (w.2.1 y0 e1).1 (by rw [e0]; decide)
    · have y := w.2.2.1 e0
      have k := cont r.2.1 r.1.2 r.2.2.1 r.2.2.2 (w.1 s e1).2 w.2.2.2.2 y
      have er : ((0, r.1.2), r.2.1, (r.2.2.1, r.2.2.2)) = r := by
        rw [← e0]
      rw [er] at k
      exact Tm_mono k (fun q z => QPo_s z)
theorem c_aimF (s : Sy T n b u al σ0 nc0 sz0 mk0 a1 a2 tb o q v mk p szB cs τ) (hs : sz0 ≤ szB) (hh : h < cs.length) {op : Nat} (ho : op < 256) {x : Int32} (hc : cs.getD h 0 = em op x) (hb : L.2.2.1 0 = b) (h1 : L.1 1 = nI (szB + h)) : Tm (fun k => y_X7_aim__P k 0 L τ) (fun r => Sy T n b u al σ0 nc0 sz0 mk0 a1 a2 tb o q v mk p szB (cs.set h (em op (L.1 2 - L.1 1))) r.2 ∧ r.2.2.2.1 41 = τ.2.2.1 41 ∧ r.2.1 = τ.1 ∧ sN r.2 41 = sN τ 41) := by
  have n36 := cdn_b s.1.1
  have le : szB + cs.length ≤ cdn b τ := s.1.1.2.1.2.1
  have ii : ¬ (nI (szB + h) < 0 ∨ cdn b τ ≤ (nI (szB + h)).toNatClampNeg) := u_in (by rw [u_n (by omega)]; omega) (by omega)
  refine Tm_suc (fun k => by rw [y_X7_aim__P]) ?_
  rw [hb, h1]
  refine Tm_chk ii (Tm_chk ii ?_)
  rw [n_cl (by omega)]
  have e1 : τ.2.2.1 (pR0 (sKd τ b)) (szB + h) = em op x := (s.2 h hh).trans hc
  rw [e1, em_lo ho]
  refine Tm_some ⟨Sy_set s hs hh _, uA_k (fun z => ?_), rfl, rfl⟩
  rcases pR0_c (sKd τ b) with w | w <;> omega
theorem wH_or {e : Wt} {s : List Wt} (h : e.1 ≤ 1) : wH szB (e :: s) = (e.2.2 - szB, 7 - e.1, wT s) :: wH szB s := if_pos h
theorem wH_no {e : Wt} {s : List Wt} (h : ¬ e.1 ≤ 1) : wH szB (e :: s) = wH szB s := if_neg h
theorem wT_y {e : Wt} {s : List Wt} (h : 3 ≤ e.1 ∧ e.1 ≤ 6) : wT (e :: s) = wT s + 1 := by show wT s + (if _ then _ else _) = _; rw [if_pos h]
theorem wT_n {e : Wt} {s : List Wt} (h : ¬ (3 ≤ e.1 ∧ e.1 ≤ 6)) : wT (e :: s) = wT s := by show wT s + (if _ then _ else _) = _; rw [if_neg h]; rfl
theorem wO_y {e : Wt} {s : List Wt} (h : e.1 = 2 ∨ 6 ≤ e.1) : wO (e :: s) = wO s + 1 := by show wO s + (if _ then _ else _) = _; rw [if_pos h]
theorem wO_n {e : Wt} {s : List Wt} (h : ¬ (e.1 = 2 ∨ 6 ≤ e.1)) : wO (e :: s) = wO s := by show wO s + (if _ then _ else _) = _; rw [if_neg h]; rfl
theorem wU_y {e : Wt} {s : List Wt} (h : e.1 = 2 ∨ 6 ≤ e.1) : wU (e :: s) = wU s := by show wU s + (if _ then _ else _) = _; rw [if_pos h]; rfl
theorem wU_n {e : Wt} {s : List Wt} (h : ¬ (e.1 = 2 ∨ 6 ≤ e.1)) : wU (e :: s) = wU s + 1 := by show wU s + (if _ then _ else _) = _; rw [if_neg h]
theorem wP_y {e : Wt} {s : List Wt} (h : e.2.1 = 112) : wP (e :: s) = wP s + 2 := by show wP s + (if _ then _ else _) = _; rw [if_pos h]
theorem wP_n {e : Wt} {s : List Wt} (h : ¬ e.2.1 = 112) : wP (e :: s) = wP s + 1 := by show wP s + (if _ then _ else _) = _; rw [if_neg h]
theorem w_cnt : ∀ s : List Wt, s.length = wO s + wU s ∧ s.length ≤ wP s
  | [] => ⟨rfl, Nat.le_refl _⟩
  | e :: s => by
    obtain ⟨h1, h2⟩ := w_cnt s
    have el : (e :: s).length = s.length + 1 := rfl
    refine ⟨?_, ?_⟩
    · by_cases c : e.1 = 2 ∨ 6 ≤ e.1
      · rw [wO_y c, wU_y c]; omega
      · rw [wO_n c, wU_n c]; omega
    · by_cases c : e.2.1 = 112
      · rw [wP_y c]; omega
      · rw [wP_n c]; omega
theorem wU_ap : ∀ (s t : List Wt), wU t ≤ wU (s ++ t)
  | [], t => Nat.le_refl _
  | e :: s, t => by
    have := wU_ap s t
    by_cases c : e.1 = 2 ∨ 6 ≤ e.1
    · show _ ≤ wU (e :: (s ++ t)); rw [wU_y c]; exact this
    · show _ ≤ wU (e :: (s ++ t)); rw [wU_n c]; omega
theorem c_settle (S0 : List Wt) (hb : ∀ e s, S0 = e :: s → e.1 < ls) (hls : ls ≤ 8) (hmk : mk ≤ 21504) : ∀ (S' : List Wt) (i : Nat) (cs : List Int32) (τ : CS) (a1 a2 : Nat) (L' : LV), i + S'.length ≤ 32768 → L'.1 1 = nI mk → L'.1 2 = nI ls → L'.1 3 = nI i → WA T n b u al σ0 tb gl Vm o0 mk p sz a1 a2 (S' ++ S0) q v cs 1 τ → (∀ e, e ∈ S' → ls ≤ e.1) → sz + cs.length + wP (S' ++ S0) ≤ 36864 → Tm (fun k => f_X5_settle k 1 L' τ) (QPo b u tb.length sz mk (Sum.inr ()) (fun _ _ τ' => ∃ cs', WQ T n b u al tb gl Vm o0 mk p sz S0 q v cs' 1 τ' ∧ cs'.length + wP S0 = cs.length + wP (S' ++ S0) ∧ τ'.1 4016 = τ.1 4016 ∧ (S' = [] → cs' = cs ∧ τ' = τ)) σ0 a1 a2) := by
  intro S'
  induction S' with
  | nil =>
    intro i cs τ a1 a2 L' hi l1 l2 l3 wa _ hz
    have wa' : WA T n b u al σ0 tb gl Vm o0 mk p sz a1 a2 S0 q v cs 1 τ := wa
    have fin : Tm (fun k => f_X5_settle k 2 L' τ) (QPo b u tb.length sz mk (Sum.inr ()) (fun _ _ τ' => ∃ cs', WQ T n b u al tb gl Vm o0 mk p sz S0 q v cs' 1 τ' ∧ cs'.length + wP S0 = cs.length + wP ([] ++ S0) ∧ τ'.1 4016 = τ.1 4016 ∧ (([] : List Wt) = [] → cs' = cs ∧ τ' = τ)) σ0 a1 a2) := by
      refine Tm_suc (fun k => by rw [f_X5_settle]) ?_
      exact Tm_some (Qfin wa'.1.1 ⟨cs, WA_q wa', rfl, rfl, fun _ => ⟨rfl, rfl⟩⟩)
    have e11 := wa'.1.1.1.2.2.1.1
    have m41 := wa'.1.1.1.2.2.1.2
    have hi' : i ≤ 32768 := hi
    refine Tm_suc (fun k => by rw [f_X5_settle]) ?_
    rw [l1, l2, l3, e11]
    refine Tm_no ?_ ?_
    · show ¬ nI 32768 < nI i
      rw [n_lt (by decide) (by omega)]; omega
    rcases S0 with _ | ⟨e, s⟩
    · refine Tm_yes ?_ fin
      rw [n_le (by show mk + 0 < _; omega) (by omega)]; exact Nat.le_refl _
    · have el : (e :: s).length = s.length + 1 := rfl
      rw [el] at e11 m41 ⊢
      have lt := hb e s rfl
      refine Tm_no ?_ ?_
      · rw [n_le (by omega) (by omega)]; omega
      have e3 : nI (mk + 3 * (s.length + 1)) - 3 = nI (mk + 3 * s.length) := by
        rw [show (3 : Int32) = nI 3 from rfl, n_sub (by omega) (by omega)]
        exact congrArg nI (by omega)
      rw [e3]
      refine Tm_chk (u_in (by rw [u_n (by omega)]; omega) (by omega)) ?_
      rw [n_cl (by omega), wa'.2.1.1.1]
      refine Tm_yes ?_ fin
      rw [n_lt (by omega) (by omega)]; exact lt
  | cons e S1 ih =>
    intro i cs τ a1 a2 L' hi l1 l2 l3 wa hl hz
    have el : (e :: S1 ++ S0).length = (S1 ++ S0).length + 1 := rfl
    have el1 : (e :: S1).length = S1.length + 1 := rfl
    obtain ⟨s, ⟨⟨mw1, mw2, mw3⟩, mw⟩, ⟨ok1, ok⟩, ph⟩ := wa
    have mw1 : τ.2.2.1 41 (mk + 3 * (S1 ++ S0).length) = nI e.1 := mw1
    have mw2 : τ.2.2.1 41 (mk + 3 * (S1 ++ S0).length + 1) = nI e.2.1 := mw2
    have mw3 : τ.2.2.1 41 (mk + 3 * (S1 ++ S0).length + 2) = nI e.2.2 := mw3
    have e11 := s.1.1.2.2.1.1
    have m41 := s.1.1.2.2.1.2
    rw [el] at e11 m41
    have le := hl e List.mem_cons_self
    have e7 : e.1 ≤ 7 := by rcases ok1 with z | z | z | z <;> omega
    have op256 : e.2.1 < 256 := by rcases ok1 with z | z | z | z <;> omega
    have w1 := w_cnt (e :: S1 ++ S0)
    have es : e :: S1 ++ S0 = e :: (S1 ++ S0) := rfl
    rw [es] at hz w1 ph
    have wP1 : wP (S1 ++ S0) + 1 ≤ wP (e :: (S1 ++ S0)) := by
      by_cases c : e.2.1 = 112
      · rw [wP_y c]; omega
      · rw [wP_n c]; exact Nat.le_refl _
    have hwo := s.1.1.2.2.2.2.2.1
    rw [es] at hwo
    -- the next round
    have b6 : ∀ (L2 : LV) (τ2 : CS) (n1 n2 : Nat) (c2 : List Int32), L2.1 1 = nI mk → L2.1 2 = nI ls → L2.1 3 = nI i → WA T n b u al σ0 tb gl Vm o0 mk p sz n1 n2 (S1 ++ S0) q v c2 1 τ2 → c2.length + wP (S1 ++ S0) = cs.length + wP (e :: (S1 ++ S0)) → τ2.1 4016 = τ.1 4016 → Tm (fun k => f_X5_settle k 6 L2 τ2) (QPo b u tb.length sz mk (Sum.inr ()) (fun _ _ τ' => ∃ cs', WQ T n b u al tb gl Vm o0 mk p sz S0 q v cs' 1 τ' ∧ cs'.length + wP S0 = cs.length + wP (e :: S1 ++ S0) ∧ τ'.1 4016 = τ.1 4016 ∧ (e :: S1 = [] → cs' = cs ∧ τ' = τ)) σ0 n1 n2) := by
      intro L2 τ2 n1 n2 c2 g1 g2 g3 wa2 hc h16
      refine Tm_suc (fun k => by rw [f_X5_settle]) ?_
      have t := ih (i + 1) c2 τ2 n1 n2 (lI L2 3 (L2.1 3 + 1)) (by omega) g1 g2 (by show L2.1 3 + 1 = _; rw [g3, n_add1]) wa2 (fun a ha => hl a (List.mem_cons_of_mem _ ha)) (by omega)
      refine Tm_mono t (fun r z => ⟨fun y ey => ?_, z.2⟩)
      obtain ⟨z1, c', z2, z3, z4, z5⟩ := z.1 y ey
      exact ⟨z1, c', z2, z3.trans hc, z4.trans h16, fun w => by cases w⟩
    -- the fold's second half
    have b4 : ∀ (L2 : LV) (τ2 : CS) (n1 n2 : Nat) (c2 : List Int32), L2.1 1 = nI mk → L2.1 2 = nI ls → L2.1 3 = nI i → Sy T n b u al σ0 tb.length sz mk n1 n2 tb (o0 + wO (S1 ++ S0)) q v (mk + 3 * (S1 ++ S0).length) p sz c2 τ2 → (τ2.2.2.1 41 = τ.2.2.1 41 ∧ sN τ2 41 = sN τ 41) → τ2.1 4016 = τ.1 4016 → wOk sz c2 (S1 ++ S0) → c2.length = cs.length + 1 → (¬ e.2.1 = 112 → PKh u p gl Vm (wH sz (S1 ++ S0)) (wT (S1 ++ S0) + 1) c2) → (e.2.1 = 112 → ∀ y, PKh u p gl Vm (wH sz (S1 ++ S0)) (wT (S1 ++ S0) + 1) (c2 ++ [em 113 y])) → Tm (fun k => f_X5_settle k 4 L2 τ2) (QPo b u tb.length sz mk (Sum.inr ()) (fun _ _ τ' => ∃ cs', WQ T n b u al tb gl Vm o0 mk p sz S0 q v cs' 1 τ' ∧ cs'.length + wP S0 = cs.length + wP (e :: S1 ++ S0) ∧ τ'.1 4016 = τ.1 4016 ∧ (e :: S1 = [] → cs' = cs ∧ τ' = τ)) σ0 n1 n2) := by
      intro L2 τ2 n1 n2 c2 g1 g2 g3 s2 ⟨hm, hsn⟩ h16 ok2 hc2 p1 p2
      have f11 := s2.1.1.2.2.1.1
      have mk2 : MkW τ2 mk (S1 ++ S0) := MkW_k _ mk (fun i _ => by rw [hm]) mw
      have fc1 := fP_c b 1
      refine Tm_suc (fun k => by rw [f_X5_settle]) ?_
      rw [f11, n_add1]
      refine Tm_chk (u_in (by rw [u_n (by omega), hsn]; omega) (by rw [hsn]; omega)) ?_
      rw [n_cl (by omega), hm, mw2]
      by_cases c : e.2.1 = 112
      · refine Tm_yes (by rw [c]; rfl) ?_
        rw [wP_y c] at hz
        refine Tm_oP (Sy_pp s2) ?_
        refine st_emitF (op := 113) s2 rfl rfl (by omega) (fun τ3 x1 x2 s3 k3 f3 => ?_)
        refine b6 L2 τ3 _ _ _ g1 g2 g3 ⟨s3, MkW_k _ mk (fun i _ => by rw [k3.1]) mk2, wOk_ap _ ok2, p2 c _⟩ ?_ ?_
        · rw [List.length_append, hc2, wP_y c]
          show cs.length + 1 + 1 + _ = _
          omega
        · rw [f3 4016 (by omega)]; exact h16
      · refine Tm_no (fun z => c ?_) ?_
        · have z' : nI e.2.1 = nI 112 := z
          exact (n_eq (by omega) (by decide)).1 z'
        refine b6 L2 τ2 _ _ _ g1 g2 g3 ⟨s2, mk2, ok2, p1 c⟩ ?_ h16
        rw [hc2, wP_n c]
        omega
    have m0le : mk + 3 * (S1 ++ S0).length + 3 ≤ sN τ 41 := by omega
    generalize hm0 : mk + 3 * (S1 ++ S0).length = m0 at *
    have u1 : (uI τ 4011 (nI m0)).1 4011 = nI m0 := uI_s
    have fc19 := fP_c b 19
    have fc1 := fP_c b 1
    have s1 : Sy T n b u al σ0 tb.length sz mk a1 a2 tb (o0 + wO (e :: (S1 ++ S0))) q v m0 p sz cs (uI τ 4011 (nI m0)) := ⟨Sx_f s.1 (fun j hj => uI_o (by omega)) rfl (by rw [uI_o (by decide)]; exact hwo.1) hwo.2 uI_s (by rw [el]; omega) (by omega) (by rw [uI_o (by omega)]; exact s.1.1.2.2.2.2.2.2.2), s.2⟩
    have e3 : nI (mk + 3 * ((S1 ++ S0).length + 1)) - 3 = nI m0 := by
      rw [show (3 : Int32) = nI 3 from rfl, n_sub (by omega) (by omega)]
      exact congrArg nI (by omega)
    have q1 : (uI τ 4011 (nI m0)).2.2.1 41 m0 = nI e.1 := mw1
    have q2 : (uI τ 4011 (nI m0)).2.2.1 41 (m0 + 1) = nI e.2.1 := mw2
    have q3 : (uI τ 4011 (nI m0)).2.2.1 41 (m0 + 2) = nI e.2.2 := mw3
    refine Tm_suc (fun k => by rw [f_X5_settle]) ?_
    rw [l1, l2, l3, e11]
    refine Tm_no ?_ ?_
    · show ¬ nI 32768 < nI i
      rw [n_lt (by decide) (by omega)]; omega
    refine Tm_no ?_ ?_
    · rw [n_le (by omega) (by omega)]; omega
    rw [e3]
    refine Tm_chk (u_in (by rw [u_n (by omega)]; omega) (by omega)) ?_
    rw [n_cl (p := m0) (by omega), mw1]
    refine Tm_no ?_ ?_
    · rw [n_lt (by omega) (by omega)]; omega
    rw [u1]
    refine Tm_chk (u_in (by rw [u_n (by omega)]; show m0 < sN τ 41; omega) (by show sN τ 41 ≤ _; omega)) ?_
    rw [show nI m0 + 2 = nI (m0 + 2) from n_add (q := 2) (by omega), n_add1]
    refine Tm_chk (u_in (by rw [u_n (by omega)]; show m0 + 2 < sN τ 41; omega) (by show sN τ 41 ≤ _; omega)) ?_
    refine Tm_oP (Sy_pp s1) ?_
    refine Tm_chk (u_in (by rw [u_n (by omega)]; show m0 + 1 < sN τ 41; omega) (by show sN τ 41 ≤ _; omega)) ?_
    rw [n_cl (p := m0) (by omega), n_cl (p := m0 + 1) (by omega), n_cl (p := m0 + 2) (by omega), q1, q2, q3]
    refine st_emitF (op := e.2.1) s1 rfl rfl (by omega) (fun τ2 x1 x2 s2 k2 f2 => ?_)
    have k2' : τ2.2.2.1 41 = τ.2.2.1 41 ∧ sN τ2 41 = sN τ 41 := k2
    have f16 : τ2.1 4016 = τ.1 4016 := by rw [f2 4016 (by omega), uI_o (by decide)]
    have la : (cs ++ [em e.2.1 0]).length = cs.length + 1 := by rw [List.length_append]; rfl
    have pt := ph.1
    have e4n : ∀ τ2 : CS, Sy T n b u al σ0 tb.length sz mk (a1 + x1) (a2 + x2) tb (o0 + wO (e :: (S1 ++ S0))) q v m0 p sz (cs ++ [em e.2.1 0]) τ2 → (e.1 = 2 ∨ 6 ≤ e.1) → τ2.1 4005 - 1 = nI (o0 + wO (S1 ++ S0)) ∧ o0 + wO (S1 ++ S0) ≤ 20 := fun τ2 s2 ho => by
      have z := s2.1.1.2.2.2.2.2.1
      rw [wO_y ho] at z
      refine ⟨?_, by omega⟩
      rw [z.1, ← Nat.add_assoc, sub1_n (by omega)]
    rcases ok1 with ⟨k1, k8, k9, k10, xx, k11⟩ | ⟨k1, k8⟩ | ⟨k1, k3, k8, k9⟩ | ⟨k1, k8⟩
    · -- and, or
      have n2 : ¬ (e.1 = 2 ∨ 6 ≤ e.1) := by omega
      refine Tm_no ?_ ?_
      · show ¬ nI 1 < nI e.1
        rw [n_lt (by decide) (by omega)]; omega
      refine Tm_oP (Sy_pp s2) (Tm_oP (Sy_pp s2) ?_)
      have ez : τ2.1 (fP b 1) = nI (sz + (cs ++ [em e.2.1 0]).length) := s2.1.1.2.1.1
      rw [ez]
      have hh : e.2.2 - sz < (cs ++ [em e.2.1 0]).length := by omega
      refine Tm_op (c_aimF (h := e.2.2 - sz) (op := 7 - e.1) s2 (Nat.le_refl _) hh (by omega) (by rw [gd_l k10]; exact k11) rfl (by show nI e.2.2 = _; exact congrArg nI (by omega))) (fun r13 z => ?_)
      obtain ⟨s3, z2, z3, z4⟩ := z
      have ej : nI (sz + (cs ++ [em e.2.1 0]).length) - nI e.2.2 = nI ((cs ++ [em e.2.1 0]).length - (e.2.2 - sz)) := by
        rw [show e.2.2 = sz + (e.2.2 - sz) by omega]
        have y := aim_n (szB := sz) (cs := cs ++ [em e.2.1 0]) (j := e.2.2 - sz) (by omega) (by omega)
        rw [show sz + (e.2.2 - sz) - sz = e.2.2 - sz by omega]
        exact y
      have s3' : Sy T n b u al σ0 tb.length sz mk (a1 + x1) (a2 + x2) tb (o0 + wO (S1 ++ S0)) q v m0 p sz ((cs ++ [em e.2.1 0]).set (e.2.2 - sz) (em (7 - e.1) (nI ((cs ++ [em e.2.1 0]).length - (e.2.2 - sz))))) r13.2 := by
        rw [← ej, ← wO_n (s := S1 ++ S0) n2]; exact s3
      rw [wH_or k1, wT_n (by omega)] at ph
      have ph1 : PKh u p gl Vm ((e.2.2 - sz, 7 - e.1, wT (S1 ++ S0)) :: wH sz (S1 ++ S0)) (wT (S1 ++ S0) + 1) (cs ++ [em e.2.1 0]) := by
        rw [k8]; exact Ph_it (b := wT (S1 ++ S0)) (m := 1) (m' := 1) ph (Nat.le_refl 1) (by have := ph.1; show _ ≤ _ + 1; omega) It_tr
      have ph2 := Ph_fi (h := e.2.2 - sz) ph1 (by rw [if_pos (by omega)])
      have pw := ph.2.2.1
      rw [List.pairwise_cons] at pw
      refine b4 _ r13.2 _ _ _ l1 l2 l3 s3' ⟨z2.trans k2'.1, z4.trans k2'.2⟩ (by rw [z3]; exact f16) (wOk_set _ (wOk_ap _ ok) (fun a ha w => pw.1 a ha w.symm)) (by rw [List.length_set]; exact la) (fun _ => ph2) (fun w => absurd w (by omega))
    · -- not
      refine Tm_yes ?_ ?_
      · show nI 1 < nI e.1
        rw [n_lt (by decide) (by omega)]; omega
      refine Tm_suc (fun k => by rw [f_X5_settle]) ?_
      refine Tm_yes (by show nI e.1 = nI 2; rw [k1]) ?_
      refine Tm_suc (fun k => by rw [f_X5_settle]) ?_
      obtain ⟨eo, o20⟩ := e4n τ2 s2 (Or.inl k1)
      rw [eo]
      rw [wH_no (by omega), wT_n (by omega)] at ph
      refine b4 _ _ _ _ _ l1 l2 l3 (Sy_o s2 o20) k2' (by rw [uI_o (by decide)]; exact f16) (wOk_ap _ ok) la (fun _ => ?_) (fun w => absurd w (by omega))
      rw [k8]
      exact Ph_it (b := wT (S1 ++ S0)) (m := 1) (m' := 1) ph (Nat.le_refl 1) (by have := ph.1; show _ ≤ _ + 1; omega) It_not
    · -- of two
      refine Tm_yes ?_ ?_
      · show nI 1 < nI e.1
        rw [n_lt (by decide) (by omega)]; omega
      refine Tm_suc (fun k => by rw [f_X5_settle]) ?_
      refine Tm_no (fun z => ?_) ?_
      · have z' : nI e.1 = nI 2 := z
        rw [n_eq (by omega) (by decide)] at z'
        omega
      rw [wH_no (by omega), wT_y ⟨k1, k3⟩] at ph
      have ph1 : PKh u p gl Vm (wH sz (S1 ++ S0)) (wT (S1 ++ S0) + 1) (cs ++ [em e.2.1 0]) := Ph_it (b := wT (S1 ++ S0)) (m := 2) (m' := 1) ph (Nat.le_refl 1) (by have := ph.1; show _ ≤ _ + 1; omega) (It_bin ⟨k8, k9⟩)
      by_cases c6 : e.1 = 6
      · refine Tm_no ?_ ?_
        · show ¬ nI e.1 < nI 6
          rw [n_lt (by omega) (by decide)]; omega
        refine Tm_suc (fun k => by rw [f_X5_settle]) ?_
        obtain ⟨eo, o20⟩ := e4n τ2 s2 (Or.inr (by omega))
        rw [eo]
        exact b4 _ _ _ _ _ l1 l2 l3 (Sy_o s2 o20) k2' (by rw [uI_o (by decide)]; exact f16) (wOk_ap _ ok) la (fun _ => ph1) (fun w => absurd w (by omega))
      · refine Tm_yes ?_ ?_
        · show nI e.1 < nI 6
          rw [n_lt (by omega) (by decide)]; omega
        rw [wO_n (by omega)] at s2
        exact b4 _ τ2 _ _ _ l1 l2 l3 s2 k2' f16 (wOk_ap _ ok) la (fun _ => ph1) (fun w => absurd w (by omega))
    · -- before an operand
      refine Tm_yes ?_ ?_
      · show nI 1 < nI e.1
        rw [n_lt (by decide) (by omega)]; omega
      refine Tm_suc (fun k => by rw [f_X5_settle]) ?_
      refine Tm_no (fun z => ?_) ?_
      · have z' : nI e.1 = nI 2 := z
        rw [n_eq (by omega) (by decide)] at z'
        omega
      refine Tm_no ?_ ?_
      · show ¬ nI e.1 < nI 6
        rw [n_lt (by omega) (by decide)]; omega
      refine Tm_suc (fun k => by rw [f_X5_settle]) ?_
      obtain ⟨eo, o20⟩ := e4n τ2 s2 (Or.inr (by omega))
      rw [eo]
      rw [wH_no (by omega), wT_n (by omega)] at ph
      refine b4 _ _ _ _ _ l1 l2 l3 (Sy_o s2 o20) k2' (by rw [uI_o (by decide)]; exact f16) (wOk_ap _ ok) la (fun w => ?_) (fun w y => ?_)
      · refine Ph_it (b := wT (S1 ++ S0)) (m := 1) (m' := 1) ph (Nat.le_refl 1) (by have := ph.1; show _ ≤ _ + 1; omega) (It_un ?_)
        omega
      · rw [w, List.append_assoc]
        exact Ph_s2 (b := wT (S1 ++ S0)) (m := 1) (n := 1) ph Sg2_fo (by have := ph.1; show _ ≤ _ + 2; omega)
/-- operators of this level at least are settled -/
theorem st_settle {f' : Nat → RS → Option RS} (S' S0 : List Wt) (wa : WA T n b u al σ0 tb gl Vm o0 mk p sz a1 a2 (S' ++ S0) q v cs 1 τ) (l1 : L.1 1 = nI mk) (l2 : L.1 2 = nI ls) (hl : ∀ e, e ∈ S' → ls ≤ e.1) (hb : ∀ e s, S0 = e :: s → e.1 < ls) (hls : ls ≤ 8) (hz : sz + cs.length + wP (S' ++ S0) ≤ 36864) (cont : ∀ (τ' : CS) (cs' : List Int32) (ret : Int32) (n1 n2 : Nat), WA T n b u al σ0 tb gl Vm o0 mk p sz (a1 + n1) (a2 + n2) S0 q v cs' 1 τ' → cs'.length + wP S0 = cs.length + wP (S' ++ S0) → τ'.1 4016 = τ.1 4016 → (S' = [] → cs' = cs ∧ τ' = τ) → Tm (fun k => f' k ((0, ret), τ', (n1, n2))) (QPo b u tb.length sz mk x S σ0 (a1 + n1) (a2 + n2))) : Tm (fun k => ox (f_X5_settle k 0 L τ) (f' k)) (QPo b u tb.length sz mk x S σ0 a1 a2) := by
  have m41 := wa.1.1.1.2.2.1.2
  have wc := w_cnt (S' ++ S0)
  have la : (S' ++ S0).length = S'.length + S0.length := List.length_append
  have t : Tm (fun k => f_X5_settle k 0 L τ) (QPo b u tb.length sz mk (Sum.inr ()) (fun _ _ τ' => ∃ cs', WQ T n b u al tb gl Vm o0 mk p sz S0 q v cs' 1 τ' ∧ cs'.length + wP S0 = cs.length + wP (S' ++ S0) ∧ τ'.1 4016 = τ.1 4016 ∧ (S' = [] → cs' = cs ∧ τ' = τ)) σ0 a1 a2) := by
    refine Tm_suc (fun k => by rw [f_X5_settle]) ?_
    exact c_settle S0 hb hls (by omega) S' 0 cs τ a1 a2 _ (by omega) l1 l2 rfl wa hl hz
  refine st_callB t (Or.inr ⟨(), rfl, fun τ' ret n1 n2 hr xk hc => ?_⟩)
  obtain ⟨cs', z1, z2, z3, z4⟩ := hr
  exact cont τ' cs' ret n1 n2 (WQ_a z1 xk hc) z2 z3 z4
end CWB
end JnS469
