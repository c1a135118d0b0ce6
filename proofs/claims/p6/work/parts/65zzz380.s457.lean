/-! The class: members of sets and tuples are read. -/
section CVP
variable {σ σ' σ0 τ τ' : CS} {L : LV} {b : Bool} {T : Nat → Int32} {n q q' u al o v mk p sz szB nc0 sz0 mk0 a1 a2 m kk f e t : Nat} {y w : Int32} {l l' cs cs' : List Int32} {tb : List Ent} {α : Type} {S : α → Int32 → CS → Prop} {C : Prop} {E : En} {gl : Nat × (Nat → Nat → Prop)} {Vm : Nat → Prop} {bt : BT}
/-- behind the members of a set or tuple -/
def MbR (T : Nat → Int32) (n : Nat) (b : Bool) (u al : Nat) (gl : Nat × (Nat → Nat → Prop)) (Vm : Nat → Prop) (tb : List Ent) (o mk p sz q v : Nat) (r : RT) (τ : CS) : Prop := ∃ ll : List Int32, QS T n b u al tb o r.1 r.2.1 mk p (sz + ll.length) τ ∧ (∀ i, i < ll.length → cdr b τ (sz + i) = ll.getD i 0) ∧ (∀ c1, Sgm u p gl Vm 1 c1 → Sgm u p gl Vm 1 (c1 ++ ll)) ∧ 2 * ll.length ≤ 3 * (r.1 - q) + 2 ∧ q ≤ r.1 ∧ v ≤ r.2.1
/-- members so far -/
def MbI (u p : Nat) (gl : Nat × (Nat → Nat → Prop)) (Vm : Nat → Prop) (tt c : Nat) (ll : List Int32) : Prop := (c ≤ 1000 → ∀ c1, Sgm u p gl Vm 1 c1 → Sgm u p gl Vm c (c1 ++ ll)) ∧ (1000 < c → ∀ c1, Sgm u p gl Vm 1 c1 → Gth u p gl Vm (1 - tt) (c1 ++ ll))
theorem tt_a {tt : Nat} (ht : tt = 0 ∨ tt = 1) (a : Nat) (ha : a < 1000) : nI a + nI tt = nI (a + tt) := n_add (by omega)
theorem mb_0 (k d : Nat) (L : LV) (σ : CS) : f_F2 (k + 1) d 6 0 L σ = (f_F2 k d 6 1 (lI (lI L 2 1) 3 0) σ) := rfl
theorem mb_1 (k d : Nat) (L : LV) (σ : CS) : f_F2 (k + 1) d 6 1 L σ = (if 32768 < ((L.1 3)) then (f_F2 k d 6 2 L σ) else (if ((σ.1 3702)) = 16 then (ox (f_X2_advance k 0 lZ σ) (fun r3 => if ((L.1 2)) = 1000 then (oP (sPp r3.2.1) (fun b5 => ox (f_X7_emit__P k 0 (lI (lI (lB lZ 0 b5) 1 ((85 + ((L.1 1))))) 2 ((L.1 2))) r3.2.1) (fun r6 => f_F2 k d 6 3 L r6.2.1))) else (f_F2 k d 6 3 L r3.2.1))) else (f_F2 k d 6 2 L σ))) := rfl
theorem mb_2 (k d : Nat) (L : LV) (σ : CS) : f_F2 (k + 1) d 6 2 L σ = (oP (sPp σ) (fun b1 => if ((L.1 2)) ≤ 1000 then (f_F2 k d 6 4 (lB L 100 b1) σ) else (f_F2 k d 6 5 (lB (lI L 100 ((83 + ((L.1 1))))) 101 b1) σ))) := rfl
theorem mb_3 (k d : Nat) (L : LV) (σ : CS) : f_F2 (k + 1) d 6 3 L σ = (of d (fun e1 => ox (f_F2 k e1 1 0 (lI lZ 1 0) σ) (fun r1 => if ((((L.1 2)) + 1)) ≤ 1000 then (f_F2 k d 6 6 (lI L 2 ((((L.1 2)) + 1))) r1.2.1) else (oP (sPp r1.2.1) (fun b3 => ox (f_X7_emit__P k 0 (lI (lI (lB lZ 0 b3) 1 ((81 + ((L.1 1))))) 2 1) r1.2.1) (fun r4 => f_F2 k d 6 6 (lI L 2 ((((L.1 2)) + 1))) r4.2.1)))))) := rfl
theorem mb_4 (k d : Nat) (L : LV) (σ : CS) : f_F2 (k + 1) d 6 4 L σ = (f_F2 k d 6 5 (lB (lI L 100 ((48 + ((L.1 1))))) 101 ((L.2.2.1 100))) σ) := rfl
theorem mb_5 (k d : Nat) (L : LV) (σ : CS) : f_F2 (k + 1) d 6 5 L σ = (ox (f_X7_emit__P k 0 (lI (lI (lB lZ 0 ((L.2.2.1 101))) 1 ((L.1 100))) 2 ((L.1 2))) σ) (fun r1 => some ((0, 0), r1.2.1, (0, 0)))) := rfl
theorem mb_6 (k d : Nat) (L : LV) (σ : CS) : f_F2 (k + 1) d 6 6 L σ = (if ((L.1 2)) = 2 then (if ((σ.1 3702)) = 28 then (ox (f_X2_advance k 0 lZ σ) (fun r3 => of d (fun e4 => ox (f_F2 k e4 1 0 (lI lZ 1 0) r3.2.1) (fun r4 => oP (sPp r4.2.1) (fun b5 => ox (f_X7_emit__P k 0 (lI (lI (lB lZ 0 b5) 1 ((52 + ((L.1 1))))) 2 0) r4.2.1) (fun r6 => some ((0, 0), r6.2.1, (0, 0)))))))) else (f_F2 k d 6 7 L σ)) else (f_F2 k d 6 7 L σ)) := rfl
theorem mb_7 (k d : Nat) (L : LV) (σ : CS) : f_F2 (k + 1) d 6 7 L σ = (f_F2 k d 6 1 (lI L 3 ((((L.1 3)) + 1))) σ) := rfl
theorem c_members {tt g i0 e0 : Nat} {x : Option RT} (ht : tt = 0 ∨ tt = 1) (h1 : L.1 1 = nI tt) (px : ∀ f', f' ≤ f → PXp T n b u al f' e) (h : QS T n b u al tb o q v mk p sz σ) (ev : EvX E b u al gl Vm tb σ) (bd : BdX n o q v mk p sz tb.length) (hG : G T n f 15 E o q v i0 e0 1 g bt = some x) (hd : 6 * (20 - o) + 8 ≤ e) : Tm (fun k => f_F2 k (e + 1) 6 0 L σ) (QPo b u tb.length sz mk x (fun r _ τ => MbR T n b u al gl Vm tb o mk p sz q v r τ) σ 0 0) := by
  have s0 := Sy_0 h
  have b22 := bd.2.1
  have n10 := bd.1
  have qn := (tk_go h).1
  -- the last instruction
  have b5 : ∀ (L' : LV) (τ : CS) (a1 a2 q1 v1 c op1 : Nat) (r : RT) (ll : List Int32), x = some r → r.1 = q1 → r.2.1 = v1 → L'.2.2.1 101 = b → L'.1 100 = nI op1 → L'.1 2 = nI c → Sy T n b u al σ tb.length sz mk a1 a2 tb o q1 v1 mk p sz ll τ → (∀ c1, Sgm u p gl Vm 1 c1 → Sgm u p gl Vm 1 (c1 ++ (ll ++ [em op1 (nI c)]))) → 2 * ll.length ≤ 3 * (q1 - q) → q ≤ q1 → q1 ≤ n → v ≤ v1 → Tm (fun k => f_F2 k (e + 1) 6 5 L' τ) (QPo b u tb.length sz mk x (fun r _ τ => MbR T n b u al gl Vm tb o mk p sz q v r τ) σ a1 a2) := by
    intro L' τ a1 a2 q1 v1 c op1 r ll hx er1 er2 lb l100 l2 s1 sg ln le ln2 lv
    refine Tm_suc (fun k => mb_5 k _ _ _) ?_
    refine st_emit (op := op1) s1 lb l100 (by omega) (fun τ2 m1 m2 s2 => ?_)
    have s2' : Sy T n b u al σ tb.length sz mk (a1 + m1) (a2 + m2) tb o q1 v1 mk p sz (ll ++ [em op1 (nI c)]) τ2 := by
      rw [← l2]; exact s2
    rw [hx]
    have la : (ll ++ [em op1 (nI c)]).length = ll.length + 1 := by rw [List.length_append]; rfl
    refine Tm_some (Qfin s2'.1 ⟨_, by rw [er1, er2]; exact s2'.1.1, s2'.2, sg, ?_, by omega, by omega⟩)
    rw [la, er1]
    omega
  have b1 : ∀ (f1 : Nat), f1 ≤ f → ∀ (L' : LV) (τ : CS) (a1 a2 q1 v1 i1 e1 c : Nat) (bt1 : BT) (ll : List Int32), G T n f1 15 E o q1 v1 i1 e1 c g bt1 = some x → 1 ≤ c → c ≤ q1 + 1 → L'.1 1 = nI tt → L'.1 2 = nI c → L'.1 3 = nI (c - 1) → Sy T n b u al σ tb.length sz mk a1 a2 tb o q1 v1 mk p sz ll τ → MbI u p gl Vm tt c ll → 2 * ll.length + (if c ≤ 1000 then 2 * (c - 1) else 0) ≤ 3 * (q1 - q) → q ≤ q1 → v ≤ v1 → Tm (fun k => f_F2 k (e + 1) 6 1 L' τ) (QPo b u tb.length sz mk x (fun r _ τ => MbR T n b u al gl Vm tb o mk p sz q v r τ) σ a1 a2) := by
    intro f1
    induction f1 with
    | zero =>
      intro _ L' τ a1 a2 q1 v1 i1 e1 c bt1 ll hg
      exact absurd hg (by intro z; cases z)
    | succ f1 ih =>
      intro hf L' τ a1 a2 q1 v1 i1 e1 c bt1 ll hg c1 cq l1 l2 l3 s1 mi ln le lv
      have go1 := tk_go s1.1.1
      have e15 : G T n (f1 + 1) 15 E o q1 v1 i1 e1 c g bt1 = (if tkK T n q1 = 12 then gT T n q1 (fun q2 => gb (G T n f1 0 E o q2 v1 0 0 0 0 bt1) (fun r => if c = 1 ∧ tkK T n r.1 = 16 then gT T n r.1 (fun q2 => gb (G T n f1 0 E o q2 r.2.1 0 0 0 0 r.2.2.2.2.1) (fun s => some (some (s.1, s.2.1, 0, s.2.2.2.2.1.1, bWrap s.2.2.2.2.1 12 (nI g) (nI i1) (nI r.2.2.2.1) (nI s.2.2.2.1), [])))) else G T n f1 15 E o r.1 r.2.1 i1 r.2.2.2.1 (c + 1) g (bSet r.2.2.2.2.1 9 e1 (nI r.2.2.2.1)))) else some (some (q1, v1, 0, bt1.1, bNode bt1 (if g = 1 then 10 else 11) 0 (nI i1) (nI c), []))) := rfl
      rw [e15] at hg
      refine Tm_suc (fun k => mb_1 k _ _ _) ?_
      refine Tm_no ?_ ?_
      · rw [l3]
        show ¬ nI 32768 < nI (c - 1)
        rw [n_lt (by decide) (by omega)]
        omega
      by_cases k12 : tkK T n q1 = 12
      · rw [if_pos k12] at hg
        have g2 := go1.2.2 (by omega)
        refine Tm_yes ((lx_k (kk := 12) s1.1.1 (by decide)).2 k12) ?_
        refine st_advY s1 (gT_any hg) (fun τ2 r2 er c2 s2 => ?_)
        rw [er]
        -- from the exp on
        have b3 : ∀ (L3 : LV) (τ3 : CS) (a3 a4 : Nat) (ls : List Int32), L3.1 1 = nI tt → L3.1 2 = nI c → L3.1 3 = nI (c - 1) → Sy T n b u al σ tb.length sz mk a3 a4 tb o (tkN T n q1) v1 mk p sz ls τ3 → ((c < 1000 ∧ ls = ll) ∨ (1000 ≤ c ∧ (∀ c1, Sgm u p gl Vm 1 c1 → Gth u p gl Vm (1 - tt) (c1 ++ ls)))) → 2 * ls.length + (if c < 1000 then 2 * (c - 1) else 0) + 3 ≤ 3 * (tkN T n q1 - q) → Tm (fun k => f_F2 k (e + 1) 6 3 L3 τ3) (QPo b u tb.length sz mk x (fun r _ τ => MbR T n b u al gl Vm tb o mk p sz q v r τ) σ a3 a4) := by
          intro L3 τ3 a3 a4 ls l1 l2 l3 s3 hc ln3
          refine Tm_suc (fun k => mb_3 k _ _ _) ?_
          refine Tm_d ?_
          have bd3 : BdX n o (tkN T n q1) v1 mk p (sz + ls.length) tb.length := BdX_g bd (by omega) go1.2.1 (Nat.le_refl _) lv (by omega)
          rcases gb_any c2 with ⟨y1, y2⟩ | ⟨r4, y1, y2⟩
          · exact st_exp (C := True) (px f1 (by omega)) (Or.inl ⟨rfl, rfl⟩) s3 (EvX_k ev s3.1.2.1) bd3 rfl hd y1 (Or.inl ⟨rfl, y2⟩) (fun _ _ _ _ _ _ z => by cases z)
          refine st_exp (C := True) (px f1 (by omega)) (Or.inl ⟨rfl, rfl⟩) s3 (EvX_k ev s3.1.2.1) bd3 rfl hd y1 (Or.inr ⟨r4, rfl, trivial⟩) (fun τ4 ret4 m1 m2 r4' l4 hz4 _ s4 xk4 sg4 ln4 lt4 lv4 tg4 => ?_)
          cases hz4
          have go4 := tk_go s4.1.1
          have la : (ls ++ l4).length = ls.length + l4.length := List.length_append
          -- behind the exp
          have b6 : ∀ (L5 : LV) (τ5 : CS) (a5 a6 : Nat) (l5 : List Int32), L5.1 1 = nI tt → L5.1 2 = nI (c + 1) → L5.1 3 = nI (c - 1) → Sy T n b u al σ tb.length sz mk a5 a6 tb o r4.1 r4.2.1 mk p sz l5 τ5 → MbI u p gl Vm tt (c + 1) l5 → 2 * l5.length + (if c + 1 ≤ 1000 then 2 * c else 0) ≤ 3 * (r4.1 - q) → Tm (fun k => f_F2 k (e + 1) 6 6 L5 τ5) (QPo b u tb.length sz mk x (fun r _ τ => MbR T n b u al gl Vm tb o mk p sz q v r τ) σ a5 a6) := by
            intro L5 τ5 a5 a6 l5 l1 l2 l3 s5 mi5 ln5
            have b7 : ¬ (c = 1 ∧ tkK T n r4.1 = 16) → Tm (fun k => f_F2 k (e + 1) 6 7 L5 τ5) (QPo b u tb.length sz mk x (fun r _ τ => MbR T n b u al gl Vm tb o mk p sz q v r τ) σ a5 a6) := by
              intro hn
              rw [if_neg hn] at y2
              refine Tm_suc (fun k => mb_7 k _ _ _) ?_
              refine ih (by omega) _ τ5 a5 a6 r4.1 r4.2.1 _ _ (c + 1) _ l5 y2 (by omega) (by omega) l1 l2 ?_ s5 mi5 ln5 (by omega) (by omega)
              show L5.1 3 + 1 = _
              rw [l3, n_add1]
              exact congrArg nI (by omega)
            refine Tm_suc (fun k => mb_6 k _ _ _) ?_
            rw [l2]
            by_cases e1' : c = 1
            · refine Tm_yes (by rw [e1']; rfl) ?_
              by_cases k16 : tkK T n r4.1 = 16
              · rw [if_pos ⟨e1', k16⟩] at y2
                refine Tm_yes ((lx_k (kk := 16) s5.1.1 (by decide)).2 k16) ?_
                have g5 := go4.2.2 (by omega)
                refine st_advY s5 (gT_any y2) (fun τ6 r6 er6 c6 s6 => ?_)
                rw [er6]
                refine Tm_d ?_
                rw [if_pos (by omega)] at ln5
                have bd6 : BdX n o (tkN T n r4.1) r4.2.1 mk p (sz + l5.length) tb.length := BdX_g bd (by omega) go4.2.1 (Nat.le_refl _) (by omega) (by omega)
                rcases gb_any c6 with ⟨z1, z2⟩ | ⟨r7, z1, z2⟩
                · exact st_exp (C := True) (px f1 (by omega)) (Or.inl ⟨rfl, rfl⟩) s6 (EvX_k ev s6.1.2.1) bd6 rfl hd z1 (Or.inl ⟨rfl, z2⟩) (fun _ _ _ _ _ _ z => by cases z)
                refine st_exp (C := True) (px f1 (by omega)) (Or.inl ⟨rfl, rfl⟩) s6 (EvX_k ev s6.1.2.1) bd6 rfl hd z1 (Or.inr ⟨r7, rfl, trivial⟩) (fun τ7 ret7 p1 p2 r7' l7 hz7 _ s7 xk7 sg7 ln7 lt7 lv7 tg7 => ?_)
                cases hz7
                have q7n := (tk_go s7.1.1).1
                have lb : (l5 ++ l7).length = l5.length + l7.length := List.length_append
                refine Tm_oP (Sy_pp s7) ?_
                refine st_emit (op := 52 + tt) s7 rfl (by show nI 52 + L5.1 1 = _; rw [l1]; exact tt_a ht 52 (by decide)) (by rw [lb]; omega) (fun τ8 x1 x2 s8 => ?_)
                have lc : (l5 ++ l7 ++ [em (52 + tt) 0]).length = l5.length + l7.length + 1 := by rw [List.length_append, lb]; rfl
                rw [← Option.some.inj z2]
                refine Tm_some (Qfin s8.1 ⟨_, s8.1.1, s8.2, fun c1 sg1 => ?_, ?_, ?_, ?_⟩)
                · have g2' := mi5.1 (by omega) c1 sg1
                  rw [e1'] at g2'
                  have g3 := Sgm_seq g2' sg7
                  have g4 : Sgm u p gl Vm 1 (c1 ++ l5 ++ l7 ++ [em (52 + tt) 0]) := by
                    have hl1 : 1 ≤ (c1 ++ l5 ++ l7).length + 1 := by omega
                    rcases ht with z | z
                    · rw [z]
                      exact Sgm_ap g3 (Nat.le_refl _) hl1 It_ps
                    · rw [z]
                      exact Sgm_ap g3 (Nat.le_refl _) hl1 It_pt
                  have ea : c1 ++ (l5 ++ l7 ++ [em (52 + tt) 0]) = c1 ++ l5 ++ l7 ++ [em (52 + tt) 0] := by simp only [List.append_assoc]
                  show Sgm u p gl Vm 1 (c1 ++ (l5 ++ l7 ++ [em (52 + tt) 0]))
                  rw [ea]
                  exact g4
                · show 2 * (l5 ++ l7 ++ [em (52 + tt) 0]).length ≤ 3 * (r7.1 - q) + 2
                  rw [lc]; omega
                · show q ≤ r7.1
                  omega
                · show v ≤ r7.2.1
                  omega
              · refine Tm_no (fun z => k16 ((lx_k (kk := 16) s5.1.1 (by decide)).1 z)) ?_
                exact b7 (fun z => k16 z.2)
            · refine Tm_no (fun z => e1' ?_) ?_
              · have z' : nI (c + 1) = nI 2 := z
                rw [n_eq (by omega) (by decide)] at z'
                omega
              · exact b7 (fun z => e1' z.1)
          have ec1 : L3.1 2 + 1 = nI (c + 1) := by rw [l2, n_add1]
          rw [ec1]
          by_cases c1000 : c + 1 ≤ 1000
          · refine Tm_yes (by show nI (c + 1) ≤ nI 1000; rw [n_le (by omega) (by decide)]; exact c1000) ?_
            rcases hc with ⟨h1', h2'⟩ | ⟨h1', _⟩
            · subst h2'
              rw [if_pos (by omega)] at ln3
              refine b6 _ τ4 _ _ _ l1 rfl l3 s4 ⟨fun _ c1 sg1 => ?_, fun z => by omega⟩ ?_
              · rw [← List.append_assoc]
                exact Sgm_seq (mi.1 (by omega) c1 sg1) sg4
              · rw [if_pos c1000, la]
                omega
            · omega
          · refine Tm_no (by show ¬ nI (c + 1) ≤ nI 1000; rw [n_le (by omega) (by decide)]; exact c1000) ?_
            rcases hc with ⟨h1', h2'⟩ | ⟨h1', gt⟩
            · omega
            · rw [if_neg (by omega)] at ln3
              refine Tm_oP (Sy_pp s4) ?_
              refine st_emit (op := 81 + tt) s4 rfl (by show nI 81 + L3.1 1 = _; rw [l1]; exact tt_a ht 81 (by decide)) (by rw [la]; omega) (fun τ5 x1 x2 s5 => ?_)
              have lc : (ls ++ l4 ++ [em (81 + tt) 1]).length = ls.length + l4.length + 1 := by rw [List.length_append, la]; rfl
              refine b6 _ τ5 _ _ (ls ++ l4 ++ [em (81 + tt) 1]) l1 rfl l3 s5 ⟨fun z => by omega, fun _ c1 sg1 => ?_⟩ ?_
              · have g4 : Gth u p gl Vm (1 - tt) (c1 ++ ls ++ (l4 ++ [em (81 + tt) 1])) := by
                  refine Gth_ga ?_ (Or.inl (by decide)) (gt c1 sg1) sg4
                  rcases ht with z | z
                  · rw [z]; exact Or.inl ⟨rfl, rfl⟩
                  · rw [z]; exact Or.inr ⟨rfl, rfl⟩
                have ea : c1 ++ (ls ++ l4 ++ [em (81 + tt) 1]) = c1 ++ ls ++ (l4 ++ [em (81 + tt) 1]) := by simp only [List.append_assoc]
                rw [ea]
                exact g4
              · rw [if_neg c1000, lc]
                omega
        rw [l2]
        by_cases c1000 : c = 1000
        · refine Tm_yes (by rw [c1000]; rfl) ?_
          rw [if_pos (by omega)] at ln
          refine Tm_oP (Sy_pp s2) ?_
          refine st_emit (op := 85 + tt) s2 rfl (by show nI 85 + L'.1 1 = _; rw [l1]; exact tt_a ht 85 (by decide)) (by omega) (fun τ5 x1 x2 s5 => ?_)
          have la : (ll ++ [em (85 + tt) (nI c)]).length = ll.length + 1 := by rw [List.length_append]; rfl
          refine b3 _ τ5 _ _ (ll ++ [em (85 + tt) (nI c)]) l1 l2 l3 s5 (Or.inr ⟨by omega, fun c1 sg1 => ?_⟩) ?_
          · rw [← List.append_assoc]
            refine Gth_jn ?_ ⟨by omega, by omega⟩ (mi.1 (by omega) c1 sg1)
            rcases ht with z | z
            · rw [z]; exact Or.inl ⟨rfl, rfl⟩
            · rw [z]; exact Or.inr ⟨rfl, rfl⟩
          · rw [la, if_neg (by omega)]
            omega
        · refine Tm_no (fun z => c1000 ?_) ?_
          · have z' : nI c = nI 1000 := z
            rw [n_eq (by omega) (by decide)] at z'
            exact z'
          · refine b3 _ τ2 _ _ ll l1 l2 l3 s2 ?_ ?_
            · rcases Nat.lt_or_ge c 1000 with z | z
              · exact Or.inl ⟨z, rfl⟩
              · exact Or.inr ⟨z, mi.2 (by omega)⟩
            · rcases Nat.lt_or_ge c 1000 with z | z
              · rw [if_pos (by omega)] at ln
                rw [if_pos z]
                omega
              · rw [if_neg (by omega)] at ln
                rw [if_neg (by omega)]
                omega
      · rw [if_neg k12] at hg
        refine Tm_no (fun z => k12 ((lx_k (kk := 12) s1.1.1 (by decide)).1 z)) ?_
        refine Tm_suc (fun k => mb_2 k _ _ _) ?_
        refine Tm_oP (Sy_pp s1) ?_
        rw [l2]
        have hx := (Option.some.inj hg).symm
        by_cases c1000 : c ≤ 1000
        · refine Tm_yes (by show nI c ≤ nI 1000; rw [n_le (by omega) (by decide)]; exact c1000) ?_
          refine Tm_suc (fun k => mb_4 k _ _ _) ?_
          refine b5 _ τ a1 a2 q1 v1 c (48 + tt) _ ll hx rfl rfl rfl (by show nI 48 + L'.1 1 = _; rw [l1]; exact tt_a ht 48 (by decide)) l2 s1 (fun c1 sg1 => ?_) (by omega) le go1.1 lv
          rw [← List.append_assoc]
          have g2 := mi.1 c1000 c1 sg1
          have hl1 : 1 ≤ (c1 ++ ll).length + 1 := by omega
          rcases ht with z | z
          · rw [z]
            exact Sgm_ap g2 (Nat.le_refl _) hl1 (It_ms (u_n (by omega)) (by omega))
          · rw [z]
            exact Sgm_ap g2 (Nat.le_refl _) hl1 (It_mt (u_n (by omega)) (by omega))
        · refine Tm_no (by show ¬ nI c ≤ nI 1000; rw [n_le (by omega) (by decide)]; exact c1000) ?_
          refine b5 _ τ a1 a2 q1 v1 c (83 + tt) _ ll hx rfl rfl rfl (by show nI 83 + L'.1 1 = _; rw [l1]; exact tt_a ht 83 (by decide)) l2 s1 (fun c1 sg1 => ?_) (by omega) le go1.1 lv
          rw [← List.append_assoc]
          exact Sgm_gd (by omega) (Sm3_n (by omega)) (mi.2 (by omega) c1 sg1)
  refine Tm_suc (fun k => mb_0 k _ _ _) ?_
  exact b1 f (Nat.le_refl _) _ σ 0 0 q v i0 e0 1 bt [] hG (by omega) (by omega) h1 rfl rfl s0 ⟨fun _ c1 sg1 => by rw [List.append_nil]; exact sg1, fun z => by omega⟩ (by show 2 * 0 + _ ≤ _; rw [if_pos (by decide)]; omega) (Nat.le_refl _) (Nat.le_refl _)
end CVP
