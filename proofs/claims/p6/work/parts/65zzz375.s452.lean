/-! The class: words and choices are read. -/
section CVK
variable {σ σ' σ0 τ τ' : CS} {L : LV} {b : Bool} {T : Nat → Int32} {n q q' u al o v mk p sz szB nc0 sz0 mk0 a1 a2 m kk f e t : Nat} {y w : Int32} {l l' cs cs' : List Int32} {tb : List Ent} {α : Type} {S : α → Int32 → CS → Prop} {C : Prop} {E : En} {gl : Nat × (Nat → Nat → Prop)} {Vm : Nat → Prop} {bt : BT}
/-- behind an operand that is no variable -/
def XN (T : Nat → Int32) (n : Nat) (b : Bool) (u al : Nat) (gl : Nat × (Nat → Nat → Prop)) (Vm : Nat → Prop) (tb : List Ent) (o mk p sz q v : Nat) (r : RT) (τ : CS) : Prop := ∃ cs : List Int32, QS T n b u al tb o r.1 r.2.1 mk p (sz + cs.length) τ ∧ (∀ i, i < cs.length → cdr b τ (sz + i) = cs.getD i 0) ∧ Sgm u p gl Vm 1 cs ∧ 2 * cs.length ≤ 3 * (r.1 - q) + 1 ∧ q < r.1 ∧ v ≤ r.2.1 ∧ r.2.2.1 = 0
def wkB (k : Nat) : Bool := !(decide (tkV k)) || (decide (uN (cKd k) < 1000) && decide ((((71 ≤ uN (cKd k) ∧ uN (cKd k) ≤ 79) ∨ uN (cKd k) = 82) ↔ ((71 ≤ k ∧ k ≤ 79) ∨ k = 82)) ∧ ((71 ≤ k ∧ k ≤ 79) ∨ k = 82 → uN (cKd k) = k)))
theorem wk_ck : ∀ k : Nat, k < 85 → wkB k = true := by decide +kernel
theorem wk_all {k : Nat} (hk : tkV k) : uN (cKd k) < 1000 ∧ (((71 ≤ uN (cKd k) ∧ uN (cKd k) ≤ 79) ∨ uN (cKd k) = 82) ↔ ((71 ≤ k ∧ k ≤ 79) ∨ k = 82)) ∧ ((71 ≤ k ∧ k ≤ 79) ∨ k = 82 → uN (cKd k) = k) := by
  have z := wk_ck k (by omega)
  unfold wkB at z
  rw [decide_eq_true hk] at z
  have z' : (decide (uN (cKd k) < 1000) && decide ((((71 ≤ uN (cKd k) ∧ uN (cKd k) ≤ 79) ∨ uN (cKd k) = 82) ↔ ((71 ≤ k ∧ k ≤ 79) ∨ k = 82)) ∧ ((71 ≤ k ∧ k ≤ 79) ∨ k = 82 → uN (cKd k) = k))) = true := z
  rw [Bool.and_eq_true, decide_eq_true_eq, decide_eq_true_eq] at z'
  exact ⟨z'.1, z'.2.1, z'.2.2⟩
theorem wd_0 (k d : Nat) (L : LV) (σ : CS) : f_F2 (k + 1) d 13 0 L σ = (if ((σ.1 3702)) = 84 then (if ((σ.1 4004)) < 1 then (f_F2 k d 13 1 (lI L 1 ((σ.1 3702))) σ) else (f_F2 k d 13 2 (lI (lI L 1 ((σ.1 3702))) 100 1) σ)) else (f_F2 k d 13 1 (lI L 1 ((σ.1 3702))) σ)) := rfl
theorem wd_1 (k d : Nat) (L : LV) (σ : CS) : f_F2 (k + 1) d 13 1 L σ = (f_F2 k d 13 2 (lI L 100 0) σ) := rfl
theorem wd_2 (k d : Nat) (L : LV) (σ : CS) : f_F2 (k + 1) d 13 2 L σ = (if ((L.1 1)) = 83 then (if ((σ.1 4004)) = 2 then (ox (f_X2_advance k 0 lZ σ) (fun r3 => oP (sPp r3.2.1) (fun b4 => ox (f_X7_emit__P k 0 (lI (lI (lB lZ 0 b4) 1 54) 2 0) r3.2.1) (fun r5 => some ((0, 0), r5.2.1, (0, 0)))))) else (f_F2 k d 13 3 (lI L 2 ((L.1 100))) σ)) else (f_F2 k d 13 3 (lI L 2 ((L.1 100))) σ)) := rfl
theorem wd_3 (k d : Nat) (L : LV) (σ : CS) : f_F2 (k + 1) d 13 3 L σ = (op (y_X5_wordOp k 0 (lI lZ 0 ((L.1 1))) σ) (fun r1 => if r1.1 = ((-1)) then (if ((L.1 2)) = 0 then (ox (f_X5_refuse k 0 (lI (lI lZ 1 2) 2 ((r1.2.1 3703))) r1.2) (fun r4 => f_F2 k d 13 4 (lI L 3 r1.1) r4.2.1)) else (f_F2 k d 13 4 (lI L 3 r1.1) r1.2)) else (f_F2 k d 13 4 (lI L 3 r1.1) r1.2))) := rfl
theorem wd_4 (k d : Nat) (L : LV) (σ : CS) : f_F2 (k + 1) d 13 4 L σ = (ox (f_X2_advance k 0 lZ σ) (fun r1 => ox (f_X5_want k 0 (lI lZ 1 10) r1.2.1) (fun r2 => ox (f_X5_opens k 0 lZ r2.2.1) (fun r3 => of d (fun e4 => ox (f_F2 k e4 1 0 (lI lZ 1 0) r3.2.1) (fun r4 => ox (f_X5_closes k 0 (lI lZ 1 11) r4.2.1) (fun r5 => oP (sPp r5.2.1) (fun b6 => if ((L.1 2)) = 0 then (f_F2 k d 13 5 (lB L 100 b6) r5.2.1) else (f_F2 k d 13 6 (lB (lI L 100 55) 101 b6) r5.2.1))))))))) := rfl
theorem wd_5 (k d : Nat) (L : LV) (σ : CS) : f_F2 (k + 1) d 13 5 L σ = (f_F2 k d 13 6 (lB (lI L 100 ((L.1 3))) 101 ((L.2.2.1 100))) σ) := rfl
theorem wd_6 (k d : Nat) (L : LV) (σ : CS) : f_F2 (k + 1) d 13 6 L σ = (ox (f_X7_emit__P k 0 (lI (lI (lB lZ 0 ((L.2.2.1 101))) 1 ((L.1 100))) 2 0) σ) (fun r1 => some ((0, 0), r1.2.1, (0, 0)))) := rfl
theorem c_wordQ {bt1 : BT} {bt2 : RT → BT} {x : Option RT} (px : PXp T n b u al f e) (h : QS T n b u al tb o q v mk p sz σ) (ev : EvX E b u al gl Vm tb σ) (bd : BdX n o q v mk p sz tb.length) (hG : (if tkK T n q = 83 ∧ E.2.2.2.2.1 = true then gT T n q (fun q1 => some (some (q1, v, 0, bt.1, bt1, []))) else if isFn (tkK T n q) E.2.2.2.2.2.1 then gT T n q (fun q1 => if tkK T n q1 = 6 then gO o (gT T n q1 (fun q2 => gb (G T n f 0 E (o + 1) q2 v 0 0 0 0 bt) (fun r => gW T n 7 r.1 (fun q3 => some (some (q3, r.2.1, 0, r.2.2.2.2.1.1, bt2 r, [])))))) else some none) else some none) = some x) (hd : ¬ o = 20 → 6 * (20 - (o + 1)) + 8 ≤ e) : Tm (fun k => f_F2 k (e + 1) 13 0 L σ) (QPo b u tb.length sz mk x (fun r _ τ => XN T n b u al gl Vm tb o mk p sz q v r τ) σ 0 0) := by
  have s0 := Sy_0 h
  have go := tk_go h
  have kv : tkV (tkK T n q) := tk_v h.1.2.2.2.1 h.1.2.2.2.2.1
  have ek : σ.1 3702 = cKd (tkK T n q) := h.1.2.2.2.2.2.1
  have al4 : σ.1 4004 = nI al := h.2.2.2.2.1.2.2
  obtain ⟨⟨al2, u42⟩, ev4, ev5⟩ := ev.2.2
  have b22 := bd.2.1
  obtain ⟨wk1, wk2, wk3⟩ := wk_all kv
  generalize hk0 : tkK T n q = k at *
  have eqw : ∀ j, tkV j → (cKd k = cKd j ↔ k = j) := fun j hj => ck_e kv hj
  -- behind the word
  have b4 : ∀ (L' : LV), (L'.1 2 = 0 ∧ L'.1 3 = nI (wOp k) ∧ ((71 ≤ k ∧ k ≤ 79) ∨ k = 82)) ∨ (L'.1 2 = 1 ∧ k = 84 ∧ E.2.2.2.2.2.1 = true) → Tm (fun k => f_F2 k (e + 1) 13 4 L' σ) (QPo b u tb.length sz mk x (fun r _ τ => XN T n b u al gl Vm tb o mk p sz q v r τ) σ 0 0) := by
    intro L' hw
    have isf : isFn k E.2.2.2.2.2.1 := by
      rcases hw with ⟨_, _, z⟩ | ⟨_, z1, z2⟩
      · rcases z with z | z
        · exact Or.inl z
        · exact Or.inr (Or.inl z)
      · exact Or.inr (Or.inr ⟨z1, z2⟩)
    have n83 : ¬ k = 83 := by
      rcases hw with ⟨_, _, z⟩ | ⟨_, z1, z2⟩ <;> omega
    have n25 : ¬ k = 25 := by
      rcases hw with ⟨_, _, z⟩ | ⟨_, z1, z2⟩ <;> omega
    have g1 := go.2.2 (by omega)
    rw [if_neg (fun z => n83 z.1), if_pos isf] at hG
    refine Tm_suc (fun k => wd_4 k _ _ _) ?_
    refine st_advY s0 (gT_any hG) (fun τ1 r1 er c1 s1 => ?_)
    rw [er]
    have go1 := tk_go s1.1.1
    by_cases k6 : tkK T n (tkN T n q) = 6
    · rw [if_pos k6] at c1
      have g2 := go1.2.2 (by omega)
      refine st_want (kk := 6) (C := True) s1 (by decide) rfl (Or.inr ⟨k6, trivial⟩) (fun τ2 ret2 m1 m2 _ s2 => ?_)
      have hop : (¬ (¬ o = 20 ∧ ¬ tkK T n (tkN T n (tkN T n q)) = 0) ∧ x = none) ∨ ((¬ o = 20 ∧ ¬ tkK T n (tkN T n (tkN T n q)) = 0) ∧ gb (G T n f 0 E (o + 1) (tkN T n (tkN T n q)) v 0 0 0 0 bt) (fun r => gW T n 7 r.1 (fun q3 => some (some (q3, r.2.1, 0, r.2.2.2.2.1.1, bt2 r, [])))) = some x) := by
        rcases gO_any c1 with ⟨w1, w2⟩ | ⟨w1, w2⟩
        · exact Or.inl ⟨fun z => z.1 w1, w2⟩
        · rcases gT_any w2 with ⟨w3, w4⟩ | ⟨w3, w4⟩
          · exact Or.inl ⟨fun z => z.2 w3, w4⟩
          · exact Or.inr ⟨⟨w1, w3⟩, w4⟩
      refine st_opens s2 hop (fun τ3 ret3 n1 n2 c3 s3 => ?_)
      refine Tm_d ?_
      have o20 : ¬ o = 20 := fun z => by
        have := s3.1.1.2.2.2.2.2.1.2
        omega
      have bd3 : BdX n (o + 1) (tkN T n (tkN T n q)) v mk p (sz + 0) tb.length := BdX_g bd (by omega) go1.2.1 (by omega) (Nat.le_refl _) (by omega)
      rcases gb_any c3 with ⟨y1, y2⟩ | ⟨r4, y1, y2⟩
      · exact st_exp (C := True) px (Or.inl ⟨rfl, rfl⟩) s3 (EvX_k ev s3.1.2.1) bd3 rfl (hd o20) y1 (Or.inl ⟨rfl, y2⟩) (fun _ _ _ _ _ _ z => by cases z)
      · refine st_exp (C := True) px (Or.inl ⟨rfl, rfl⟩) s3 (EvX_k ev s3.1.2.1) bd3 rfl (hd o20) y1 (Or.inr ⟨r4, rfl, trivial⟩) (fun τ5 ret5 p1 p2 r5 l5 hz5 _ s5 xk5 sg5 ln5 lt5 lv5 tg5 => ?_)
        cases hz5
        have go5 := tk_go s5.1.1
        have y7 := gW_any y2
        refine st_closes (kk := 7) s5 (by decide) rfl y7 (fun τ6 ret6 x1 x2 c6 s6 => ?_)
        have k7 : tkK T n r4.1 = 7 := by
          rcases y7 with ⟨z1, z2⟩ | ⟨z1, _⟩
          · rw [z2] at c6; cases c6
          · exact z1.1
        cases c6
        have g6 := go5.2.2 (by omega)
        have s6' : Sy T n b u al σ tb.length sz mk (0 + m1 + n1 + p1 + x1) (0 + m2 + n2 + p2 + x2) tb o (tkN T n r4.1) r4.2.1 mk p sz l5 τ6 := s6
        refine Tm_oP (Sy_pp s6') ?_
        have b6 : ∀ (L2 : LV) (op : Nat), L2.1 100 = nI op → L2.2.2.1 101 = b → Itc u p gl Vm 1 1 [em op 0] → Tm (fun k => f_F2 k (e + 1) 13 6 L2 τ6) (QPo b u tb.length sz mk (some (tkN T n r4.1, r4.2.1, 0, r4.2.2.2.2.1.1, bt2 r4, [])) (fun r _ τ => XN T n b u al gl Vm tb o mk p sz q v r τ) σ (0 + m1 + n1 + p1 + x1) (0 + m2 + n2 + p2 + x2)) := by
          intro L2 op l100 l101 it
          refine Tm_suc (fun k => wd_6 k _ _ _) ?_
          refine st_emit (op := op) s6' l101 l100 (by omega) (fun τ7 x3 x4 s7 => ?_)
          have lap : (l5 ++ [em op 0]).length = l5.length + 1 := by rw [List.length_append]; rfl
          refine Tm_some (Qfin s7.1 ⟨_, s7.1.1, s7.2, Sgm_ap sg5 (Nat.le_refl _) (by show 1 ≤ l5.length + 1; omega) it, ?_, ?_, lv5, rfl⟩)
          · show 2 * (l5 ++ [em op 0]).length ≤ 3 * (tkN T n r4.1 - q) + 1
            rw [lap]; omega
          · show q < tkN T n r4.1
            omega
        rcases hw with ⟨z1, z2, z3⟩ | ⟨z1, z2, z3⟩
        · refine Tm_yes z1 ?_
          refine Tm_suc (fun k => wd_5 k _ _ _) ?_
          exact b6 _ (wOp k) z2 rfl (It_un (by unfold wOp; split <;> omega))
        · refine Tm_no (by rw [z1]; decide) ?_
          exact b6 _ 55 rfl rfl It_ra
    · rw [if_neg k6] at c1
      exact st_want (kk := 6) (C := False) s1 (by decide) rfl (Or.inl ⟨k6, (Option.some.inj c1).symm⟩) (fun _ _ _ _ c _ => c.elim)
  have b3 : ∀ (L' : LV), L'.1 1 = cKd k → (L'.1 2 = 0 ∧ ¬ (k = 84 ∧ E.2.2.2.2.2.1 = true)) ∨ (L'.1 2 = 1 ∧ k = 84 ∧ E.2.2.2.2.2.1 = true) → ¬ (k = 83 ∧ E.2.2.2.2.1 = true) → Tm (fun k => f_F2 k (e + 1) 13 3 L' σ) (QPo b u tb.length sz mk x (fun r _ τ => XN T n b u al gl Vm tb o mk p sz q v r τ) σ 0 0) := by
    intro L' l1 hw n83
    refine Tm_suc (fun k => wd_3 k _ _ _) ?_
    refine Tm_op (c_wordOp (L := lI lZ 0 (L'.1 1)) wk1 (by show L'.1 1 = _; rw [l1]; exact u_of _)) (fun r z => ?_)
    obtain ⟨z1, z2, z3⟩ := z
    rw [z1]
    by_cases kw : (71 ≤ k ∧ k ≤ 79) ∨ k = 82
    · have e1 := z2 (wk2.2 kw)
      rw [wk3 kw] at e1
      rw [e1]
      refine Tm_no (fun y => ?_) ?_
      · have y' := congrArg uN y
        rw [u_n (by unfold wOp; split <;> omega)] at y'
        have : uN (-1 : Int32) = 4294967295 := by decide
        unfold wOp at y'
        split at y' <;> omega
      · refine b4 _ (Or.inl ⟨?_, rfl, kw⟩)
        rcases hw with ⟨w1, _⟩ | ⟨_, w2, _⟩
        · exact w1
        · omega
    · have e1 := z3 (fun y => kw (wk2.1 y))
      rw [e1]
      refine Tm_yes rfl ?_
      rcases hw with ⟨w1, w2⟩ | ⟨w1, w2, w3⟩
      · refine Tm_yes w1 ?_
        have nf : ¬ isFn k E.2.2.2.2.2.1 := fun y => by
          rcases y with y | y | y
          · exact kw (Or.inl y)
          · exact kw (Or.inr y)
          · exact w2 y
        rw [if_neg n83, if_neg nf] at hG
        rw [← Option.some.inj hG]
        exact st_ref s0.1
      · refine Tm_no (by show ¬ L'.1 2 = 0; rw [w1]; decide) ?_
        exact b4 _ (Or.inr ⟨w1, w2, w3⟩)
  have b2 : ∀ (L' : LV), L'.1 1 = cKd k → (L'.1 100 = 0 ∧ ¬ (k = 84 ∧ E.2.2.2.2.2.1 = true)) ∨ (L'.1 100 = 1 ∧ k = 84 ∧ E.2.2.2.2.2.1 = true) → Tm (fun k => f_F2 k (e + 1) 13 2 L' σ) (QPo b u tb.length sz mk x (fun r _ τ => XN T n b u al gl Vm tb o mk p sz q v r τ) σ 0 0) := by
    intro L' l1 hw
    refine Tm_suc (fun k => wd_2 k _ _ _) ?_
    rw [l1, al4]
    by_cases k83 : k = 83
    · refine Tm_yes ((eqw 83 (by decide)).2 k83) ?_
      by_cases a2' : al = 2
      · refine Tm_yes (by rw [a2']; rfl) ?_
        rw [if_pos ⟨k83, ev4.2 a2'⟩] at hG
        have g1 := go.2.2 (by omega)
        refine st_advY s0 (gT_any hG) (fun τ1 r1 er c1 s1 => ?_)
        rw [er]
        cases c1
        refine Tm_oP (Sy_pp s1) ?_
        refine st_emit (op := 54) s1 rfl rfl (by show sz + 0 + 1 ≤ _; omega) (fun τ2 x1 x2 s2 => ?_)
        refine Tm_some (Qfin s2.1 ⟨[em 54 0], s2.1.1, s2.2, Sgm_1 (Nat.le_refl _) (Nat.le_refl _) It_na, ?_, g1, Nat.le_refl _, rfl⟩)
        show 2 * 1 ≤ 3 * (tkN T n q - q) + 1
        omega
      · refine Tm_no (fun z => a2' ?_) ?_
        · have z' : nI al = nI 2 := z
          rw [n_eq (by omega) (by decide)] at z'
          exact z'
        · exact b3 _ l1 hw (fun z => a2' (ev4.1 z.2))
    · refine Tm_no (fun z => k83 ((eqw 83 (by decide)).1 z)) ?_
      exact b3 _ l1 hw (fun z => k83 z.1)
  have b1 : ∀ (L' : LV), L'.1 1 = cKd k → ¬ (k = 84 ∧ E.2.2.2.2.2.1 = true) → Tm (fun k => f_F2 k (e + 1) 13 1 L' σ) (QPo b u tb.length sz mk x (fun r _ τ => XN T n b u al gl Vm tb o mk p sz q v r τ) σ 0 0) := by
    intro L' l1 hw
    refine Tm_suc (fun k => wd_1 k _ _ _) ?_
    exact b2 _ l1 (Or.inl ⟨rfl, hw⟩)
  refine Tm_suc (fun k => wd_0 k _ _ _) ?_
  rw [ek, al4]
  by_cases k84 : k = 84
  · refine Tm_yes ((eqw 84 (by decide)).2 k84) ?_
    have e1 : nI al < 1 ↔ al < 1 := by
      show nI al < nI 1 ↔ _
      rw [u_ltn (by rw [u_n (by omega)]; omega) (by decide), u_n (by omega), u_n (by decide)]
    refine Tm_ite (fun z => ?_) (fun z => ?_)
    · rw [e1] at z
      exact b1 _ rfl (fun y => by have := ev5.1 y.2; omega)
    · rw [e1] at z
      exact b2 _ rfl (Or.inr ⟨rfl, k84, ev5.2 (by omega)⟩)
  · refine Tm_no (fun z => k84 ((eqw 84 (by decide)).1 z)) ?_
    exact b1 _ rfl (fun y => k84 y.1)
end CVK
