/-! The class: names and calls of funcs are read. -/
section CVI
variable {σ σ' σ0 τ τ' : CS} {L : LV} {b : Bool} {T : Nat → Int32} {n q q' u al o v mk p sz szB nc0 sz0 mk0 a1 a2 m kk f e : Nat} {y : Int32} {l l' cs cs' : List Int32} {tb : List Ent} {α : Type} {S : α → Int32 → CS → Prop} {C : Prop} {E : En} {gl : Nat × (Nat → Nat → Prop)} {Vm : Nat → Prop} {bt : BT}
/-- behind what an operand begins with: whether it is a variable -/
def PmR (T : Nat → Int32) (n : Nat) (b : Bool) (u al : Nat) (gl : Nat × (Nat → Nat → Prop)) (Vm : Nat → Prop) (tb : List Ent) (o mk p sz q v : Nat) (r : RT) (y : Int32) (τ : CS) : Prop := ∃ cs : List Int32, QS T n b u al tb o r.1 r.2.1 mk p (sz + cs.length) τ ∧ (∀ i, i < cs.length → cdr b τ (sz + i) = cs.getD i 0) ∧ Sgm u p gl Vm 1 cs ∧ 2 * cs.length ≤ 3 * (r.1 - q) + 1 ∧ q < r.1 ∧ v ≤ r.2.1 ∧ ((r.2.2.1 = 0 ∧ y = -1) ∨ (r.2.2.1 = 1 ∧ ∃ i ld, y = nI i ∧ LkI tb (tkS T n q) i ∧ cs = [ld]))
theorem fc_0 (k d : Nat) (L : LV) (σ : CS) : f_F2 (k + 1) d 4 0 L σ = (oP (sPp σ) (fun b1 => ox (f_X7_emit__P k 0 (lI (lI (lB lZ 0 b1) 1 16) 2 0) σ) (fun r2 => ox (f_X5_opens k 0 lZ r2.2.1) (fun r3 => if ((r3.2.1.1 3702)) = 11 then (f_F2 k d 4 2 (lI (lI L 2 ((r3.2.1.1 4005))) 100 0) r3.2.1) else (f_F2 k d 4 1 (lI L 2 ((r3.2.1.1 4005))) r3.2.1))))) := rfl
theorem fc_1 (k d : Nat) (L : LV) (σ : CS) : f_F2 (k + 1) d 4 1 L σ = (of d (fun e1 => ox (f_F2 k e1 2 0 lZ σ) (fun r1 => f_F2 k d 4 2 (lI L 100 r1.1.2) r1.2.1))) := rfl
theorem fc_2 (k d : Nat) (L : LV) (σ : CS) : f_F2 (k + 1) d 4 2 L σ = (ox (f_X5_want k 0 (lI lZ 1 11) σ) (fun r1 => oP (sPp r1.2.1) (fun b2 => if ¬ (((L.1 1)) < 0 ∨ 42 ≤ ((L.1 1)).toNatClampNeg) then (if ((L.1 100)) = ((r1.2.1.2.2.1 (pR14 b2) ((L.1 1)).toNatClampNeg)) then (f_F2 k d 4 3 L r1.2.1) else (ox (f_X5_refuse k 0 (lI (lI lZ 1 6) 2 ((r1.2.1.1 3703))) r1.2.1) (fun r5 => f_F2 k d 4 3 L r5.2.1))) else none))) := rfl
theorem fc_3 (k d : Nat) (L : LV) (σ : CS) : f_F2 (k + 1) d 4 3 L σ = (ox (f_X5_closes k 0 (lI lZ 1 11) σ) (fun r1 => oP (sPp r1.2.1) (fun b2 => ox (f_X7_emit__P k 0 (lI (lI (lB lZ 0 b2) 1 17) 2 ((L.1 1))) r1.2.1) (fun r3 => oP (sPp r3.2.1) (fun b4 => oP (sPp r3.2.1) (fun b5 => ox (f_X7_word__P k 0 (lI (lB lZ 0 b4) 1 ((((L.1 2)) ||| ((((r3.2.1.1 (fP b5 19))) <<< ((8 : Int32) &&& 31)))))) r3.2.1) (fun r6 => some ((0, 0), r6.2.1, (0, 0))))))))) := rfl
theorem c_fcall {w np qn : Nat} {bt2 : RT → BT} {x : Option RT} (px : ∀ f', f' ≤ f → PXp T n b u al f' e) (h : QS T n b u al tb o q v mk p sz σ) (ev : EvX E b u al gl Vm tb σ) (bd : BdX n o q v mk p sz tb.length) (hk : tkK T n q = 6) (hq : qn < q) (hw : gl.2 w np) (h1 : L.1 1 = nI w) (hG : gO o (gT T n q (fun q2 => gb (G T n (f + 1) 14 E (o + 1) q2 v 0 0 0 0 bt) (fun r => if tkK T n r.1 = 7 ∧ r.2.2.1 = np then gT T n r.1 (fun q3 => some (some (q3, r.2.1, 0, r.2.2.2.2.1.1, bt2 r, []))) else some none))) = some x) (hd : ¬ o = 20 → 6 * (20 - (o + 1)) + 8 ≤ e) : Tm (fun k => f_F2 k (e + 2) 4 0 L σ) (QPo b u tb.length sz mk x (fun r _ τ => ∃ cs : List Int32, QS T n b u al tb o r.1 r.2.1 mk p (sz + cs.length) τ ∧ (∀ i, i < cs.length → cdr b τ (sz + i) = cs.getD i 0) ∧ Sgm u p gl Vm 1 cs ∧ 2 * cs.length ≤ 3 * (r.1 - qn) + 1 ∧ qn < r.1 ∧ v ≤ r.2.1 ∧ r.2.2.1 = 0) σ 0 0) := by
  have s0 := Sy_0 h
  have go := tk_go h
  have g1 := go.2.2 (by omega)
  obtain ⟨pr1, pr2, pr3⟩ := ev.2.1 w np hw
  have p180 : p ≤ 180 := by
    have := bd.2.2.2.2
    have := h.2.2.2.2.2.2.1.2
    omega
  have b22 := bd.2.1
  have hop : (¬ (¬ o = 20 ∧ ¬ tkK T n (tkN T n q) = 0) ∧ x = none) ∨ ((¬ o = 20 ∧ ¬ tkK T n (tkN T n q) = 0) ∧ gb (G T n (f + 1) 14 E (o + 1) (tkN T n q) v 0 0 0 0 bt) (fun r => if tkK T n r.1 = 7 ∧ r.2.2.1 = np then gT T n r.1 (fun q3 => some (some (q3, r.2.1, 0, r.2.2.2.2.1.1, bt2 r, []))) else some none) = some x) := by
    rcases gO_any hG with ⟨w1, w2⟩ | ⟨w1, w2⟩
    · exact Or.inl ⟨fun z => z.1 w1, w2⟩
    · rcases gT_any w2 with ⟨w3, w4⟩ | ⟨w3, w4⟩
      · exact Or.inl ⟨fun z => z.2 w3, w4⟩
      · exact Or.inr ⟨⟨w1, w3⟩, w4⟩
  -- from the ) on
  have b2 : ∀ (L' : LV) (τ' : CS) (a1 a2 : Nat) (as : List Int32) (r : RT), L'.1 1 = nI w → L'.1 2 = nI (o + 1) → L'.1 100 = nI r.2.2.1 → ¬ o = 20 → Sy T n b u al σ tb.length sz mk a1 a2 tb (o + 1) r.1 r.2.1 mk p sz (em 16 0 :: as) τ' → Sgm u p gl Vm r.2.2.1 as → r.2.2.1 ≤ 20000 → 2 * as.length ≤ 3 * (r.1 - tkN T n q) + 1 → tkN T n q ≤ r.1 → v ≤ r.2.1 → (if tkK T n r.1 = 7 ∧ r.2.2.1 = np then gT T n r.1 (fun q3 => some (some (q3, r.2.1, 0, r.2.2.2.2.1.1, bt2 r, []))) else some none) = some x → Tm (fun k => f_F2 k (e + 2) 4 2 L' τ') (QPo b u tb.length sz mk x (fun r _ τ => ∃ cs : List Int32, QS T n b u al tb o r.1 r.2.1 mk p (sz + cs.length) τ ∧ (∀ i, i < cs.length → cdr b τ (sz + i) = cs.getD i 0) ∧ Sgm u p gl Vm 1 cs ∧ 2 * cs.length ≤ 3 * (r.1 - qn) + 1 ∧ qn < r.1 ∧ v ≤ r.2.1 ∧ r.2.2.1 = 0) σ a1 a2) := by
    intro L' τ' a1 a2 as r l1 l2 l100 o20 s2 sg rb ln le lv hg
    have go2 := tk_go s2.1.1
    by_cases k7 : tkK T n r.1 = 7
    · refine Tm_suc (fun k => fc_2 k _ _ _) ?_
      refine st_want (kk := 7) (C := True) s2 (by decide) rfl (Or.inr ⟨k7, trivial⟩) (fun τ3 ret3 m1 m2 _ s3 => ?_)
      refine Tm_oP (Sy_pp s3) ?_
      have pr3' : τ3.2.2.1 (pR14 b) w = nI np := (PrR_k ev.2.1 s3.1.2.1 w np hw).2.2
      rw [l1]
      refine Tm_chk (u_in (by rw [u_n (by omega)]; omega) (by decide)) ?_
      rw [n_cl (by omega), pr3', l100]
      by_cases kn : r.2.2.1 = np
      · rw [if_pos ⟨k7, kn⟩] at hg
        refine Tm_yes (by rw [kn]) ?_
        refine Tm_suc (fun k => fc_3 k _ _ _) ?_
        refine st_closes (kk := 7) s3 (by decide) rfl (C := x = some (tkN T n r.1, r.2.1, 0, r.2.2.2.2.1.1, bt2 r, [])) ?_ (fun τ4 ret4 p1 p2 c4 s4 => ?_)
        · rcases gT_any hg with ⟨w3, w4⟩ | ⟨w3, w4⟩
          · exact Or.inl ⟨fun z => z.2 w3, w4⟩
          · exact Or.inr ⟨⟨k7, w3⟩, (Option.some.inj w4).symm⟩
        · have g3 := go2.2.2 (by omega)
          have el : (em 16 0 :: as).length = as.length + 1 := rfl
          refine Tm_oP (Sy_pp s4) ?_
          refine st_emit (op := 17) s4 rfl rfl (by rw [el]; omega) (fun τ5 x1 x2 s5 => ?_)
          refine Tm_oP (Sy_pp s5) ?_
          refine Tm_oP (Sy_pp s5) ?_
          refine st_word s5 rfl (by rw [List.length_append, el]; show sz + (as.length + 1 + 1) + 1 ≤ _; omega) (fun τ6 y1 y2 s6 => ?_)
          have wq : L'.1 2 ||| (τ5.1 (fP b 19) <<< ((8 : Int32) &&& 31)) = em (o + 1) (nI p) := by
            rw [l2, s5.1.1.2.2.2.2.2.2.2]; rfl
          have ecs : em 16 0 :: as ++ [em 17 (L'.1 1)] ++ [L'.1 2 ||| (τ5.1 (fP b 19) <<< ((8 : Int32) &&& 31))] = em 16 0 :: (as ++ [em 17 (nI w), em (o + 1) (nI p)]) := by
            rw [wq, l1, List.append_assoc]; rfl
          have s6' : Sy T n b u al σ tb.length sz mk (a1 + m1 + p1 + x1 + y1) (a2 + m2 + p2 + x2 + y2) tb o (tkN T n r.1) r.2.1 mk p sz (em 16 0 :: (as ++ [em 17 (nI w), em (o + 1) (nI p)])) τ6 := by
            rw [← ecs]; exact s6
          rw [c4]
          have lc : (em 16 0 :: (as ++ [em 17 (nI w), em (o + 1) (nI p)])).length = as.length + 3 := by rw [List.length_cons, List.length_append]; rfl
          have o19 := s4.1.1.2.2.2.2.2.1.2
          refine Tm_some (Qfin s6'.1 ⟨_, s6'.1.1, s6'.2, Sgm_ca hw (by omega) (kn ▸ sg), ?_, ?_, lv, rfl⟩)
          · rw [lc]
            show 2 * (as.length + 3) ≤ 3 * (tkN T n r.1 - qn) + 1
            omega
          · show qn < tkN T n r.1
            omega
      · rw [if_neg (fun z => kn z.2)] at hg
        refine Tm_no (by rw [n_eq (by omega) (by omega)]; exact kn) ?_
        rw [← Option.some.inj hg]
        exact st_ref s3.1
    · rw [if_neg (fun z => k7 z.1)] at hg
      refine Tm_suc (fun k => fc_2 k _ _ _) ?_
      exact st_want (kk := 7) (C := False) s2 (by decide) rfl (Or.inl ⟨k7, (Option.some.inj hg).symm⟩) (fun _ _ _ _ c _ => c.elim)
  refine Tm_suc (fun k => fc_0 k _ _ _) ?_
  refine Tm_oP (Sy_pp s0) ?_
  refine st_emit (op := 16) s0 rfl rfl (by show sz + 0 + 1 ≤ _; omega) (fun τ1 n1 n2 s1 => ?_)
  refine st_opens s1 hop (fun τ2 ret m1 m2 c2 s2 => ?_)
  have o20 : ¬ o = 20 := fun z => by
    have := s2.1.1.2.2.2.2.2.1.2
    omega
  have e05 : τ2.1 4005 = nI (o + 1) := s2.1.1.2.2.2.2.2.1.1
  have s2' : Sy T n b u al σ tb.length sz mk (0 + n1 + m1) (0 + n2 + m2) tb (o + 1) (tkN T n q) v mk p sz [em 16 0] τ2 := s2
  by_cases k7 : tkK T n (tkN T n q) = 7
  · refine Tm_yes ((lx_k (kk := 7) s2.1.1 (by decide)).2 k7) ?_
    have g14 : G T n (f + 1) 14 E (o + 1) (tkN T n q) v 0 0 0 0 bt = some (some (tkN T n q, v, 0, 0, bt, [])) := by
      have z : G T n (f + 1) 14 E (o + 1) (tkN T n q) v 0 0 0 0 bt = (if (0 : Nat) = 0 then (if tkK T n (tkN T n q) = 7 then some (some (tkN T n q, v, 0, 0, bt, [])) else gb (G T n f 0 E (o + 1) (tkN T n q) v 0 0 0 0 bt) (fun r => G T n f 14 E (o + 1) r.1 r.2.1 r.2.2.2.1 r.2.2.2.1 1 0 r.2.2.2.2.1)) else if tkK T n (tkN T n q) = 12 then gT T n (tkN T n q) (fun q2 => gb (G T n f 0 E (o + 1) q2 v 0 0 0 0 bt) (fun r => G T n f 14 E (o + 1) r.1 r.2.1 0 r.2.2.2.1 (0 + 1) 0 (bSet r.2.2.2.2.1 9 0 (nI r.2.2.2.1)))) else some (some (tkN T n q, v, 0, 0, bt, []))) := rfl
      rw [z, if_pos rfl, if_pos k7]
    rw [g14] at c2
    exact b2 _ τ2 _ _ [] (tkN T n q, v, 0, 0, bt, []) h1 e05 rfl o20 s2' (Sgm_nil u p gl Vm) (by show 0 ≤ _; omega) (by show 2 * 0 ≤ _; omega) (Nat.le_refl _) (Nat.le_refl _) c2
  · refine Tm_no (fun z => k7 ((lx_k (kk := 7) s2.1.1 (by decide)).1 z)) ?_
    refine Tm_suc (fun k => fc_1 k _ _ _) ?_
    refine Tm_d ?_
    have bd2 : BdX n (o + 1) (tkN T n q) v mk p (sz + 1) tb.length := by
      refine BdX_g bd (by omega) go.2.1 (by omega) (Nat.le_refl _) (by omega)
    have gg : ∃ z, G T n (f + 1) 14 E (o + 1) (tkN T n q) v 0 0 0 0 bt = some z := by
      rcases gb_any c2 with ⟨y1, y2⟩ | ⟨r4, y1, y2⟩
      · exact ⟨_, y1⟩
      · exact ⟨_, y1⟩
    obtain ⟨z, hz⟩ := gg
    refine st_call (C := True) s2'.1 (c_exps px s2'.1.1 (EvX_k ev s2'.1.2.1) bd2 k7 hz (hd o20)) ?_
    rcases gb_any c2 with ⟨y1, y2⟩ | ⟨r4, y1, y2⟩
    · rw [hz] at y1
      exact Or.inl ⟨Option.some.inj y1, y2⟩
    · rw [hz] at y1
      refine Or.inr ⟨r4, Option.some.inj y1, trivial, fun τ3 ret3 p1 p2 hr xk hc => ?_⟩
      obtain ⟨er, ll, r1, r2, r3, r4', r5, r6⟩ := hr
      have s3 := Sy_ca s2' r1 xk hc r2 s2'.1.2.2.2.1 s2'.1.2.2.2.2.2
      refine b2 _ τ3 _ _ ll r4 h1 e05 er o20 s3 r3 ?_ r4' (by omega) r6 y2
      have := r3.1
      have := (tk_go r1).1
      have := bd.1
      omega
theorem nd_0 (k d : Nat) (L : LV) (σ : CS) : f_F2 (k + 1) d 7 0 L σ = (ox (f_X5_takenName k 0 lZ σ) (fun r1 => if r1.1.2 = ((-1)) then (f_F2 k d 7 2 (lI (lI (lI L 1 ((σ.1 3703))) 2 r1.1.2) 100 2) r1.2.1) else (f_F2 k d 7 1 (lI (lI L 1 ((σ.1 3703))) 2 r1.1.2) r1.2.1))) := rfl
theorem nd_1 (k d : Nat) (L : LV) (σ : CS) : f_F2 (k + 1) d 7 1 L σ = (oP (sPp σ) (fun b1 => if ¬ (((L.1 2)) < 0 ∨ 256 ≤ ((L.1 2)).toNatClampNeg) then (f_F2 k d 7 2 (lI L 100 ((σ.2.2.1 (pR7 b1) ((L.1 2)).toNatClampNeg))) σ) else none)) := rfl
theorem nd_2 (k d : Nat) (L : LV) (σ : CS) : f_F2 (k + 1) d 7 2 L σ = (if ((L.1 100)) = 2 then (f_F2 k d 7 3 (lI L 3 ((L.1 100))) σ) else (if ((L.1 100)) = 1 then (if ((σ.1 3702)) = 10 then (f_F2 k d 7 4 (lI L 3 ((L.1 100))) σ) else (f_F2 k d 7 3 (lI L 3 ((L.1 100))) σ)) else (f_F2 k d 7 4 (lI L 3 ((L.1 100))) σ))) := rfl
theorem nd_3 (k d : Nat) (L : LV) (σ : CS) : f_F2 (k + 1) d 7 3 L σ = (ox (f_X5_refuse k 0 (lI (lI lZ 1 5) 2 ((L.1 1))) σ) (fun r1 => f_F2 k d 7 4 L r1.2.1)) := rfl
theorem nd_4 (k d : Nat) (L : LV) (σ : CS) : f_F2 (k + 1) d 7 4 L σ = (if ((L.1 3)) = 1 then (oP (sPp σ) (fun b2 => if ¬ (((L.1 2)) < 0 ∨ 256 ≤ ((L.1 2)).toNatClampNeg) then (of d (fun e4 => ox (f_F2 k e4 4 0 (lI lZ 1 ((σ.2.2.1 (pR9 b2) ((L.1 2)).toNatClampNeg))) σ) (fun r4 => some ((0, (-1)), r4.2.1, (0, 0))))) else none)) else (f_F2 k d 7 5 L σ)) := rfl
theorem nd_5 (k d : Nat) (L : LV) (σ : CS) : f_F2 (k + 1) d 7 5 L σ = (if ((L.1 3)) = 3 then (f_F2 k d 7 7 (lI L 100 41) σ) else (f_F2 k d 7 6 L σ)) := rfl
theorem nd_6 (k d : Nat) (L : LV) (σ : CS) : f_F2 (k + 1) d 7 6 L σ = (f_F2 k d 7 7 (lI L 100 35) σ) := rfl
theorem nd_7 (k d : Nat) (L : LV) (σ : CS) : f_F2 (k + 1) d 7 7 L σ = (oP (sPp σ) (fun b1 => oP (sPp σ) (fun b2 => if ¬ (((L.1 2)) < 0 ∨ 256 ≤ ((L.1 2)).toNatClampNeg) then (if ((σ.2.2.1 (pR8 b2) ((L.1 2)).toNatClampNeg)) = ((σ.1 4003)) then (f_F2 k d 7 9 (lB (lI L 100 ((L.1 100))) 101 b1) σ) else (f_F2 k d 7 8 (lB L 100 b1) σ)) else none))) := rfl
theorem nd_8 (k d : Nat) (L : LV) (σ : CS) : f_F2 (k + 1) d 7 8 L σ = (f_F2 k d 7 9 (lB (lI L 100 36) 101 ((L.2.2.1 100))) σ) := rfl
theorem nd_9 (k d : Nat) (L : LV) (σ : CS) : f_F2 (k + 1) d 7 9 L σ = (oP (sPp σ) (fun b1 => if ¬ (((L.1 2)) < 0 ∨ 256 ≤ ((L.1 2)).toNatClampNeg) then (ox (f_X7_emit__P k 0 (lI (lI (lB lZ 0 ((L.2.2.1 101))) 1 ((L.1 100))) 2 ((σ.2.2.1 (pR9 b1) ((L.1 2)).toNatClampNeg))) σ) (fun r3 => some ((0, (L.1 2)), r3.2.1, (0, 0)))) else none)) := rfl
/-- a name: a variable, or a func that is called -/
theorem c_named {bt1 : BT} {bt2 : RT → BT} {x : Option RT} (px : ∀ f', f' ≤ f → PXp T n b u al f' e) (h : QS T n b u al tb o q v mk p sz σ) (ev : EvX E b u al gl Vm tb σ) (bd : BdX n o q v mk p sz tb.length) (hk : tkK T n q = 26) (hG : gT T n q (fun q1 => if (fd E (tkS T n q)).1 = 1 then some (some (q1, v, 1, bt.1, bt1, [])) else if (fd E (tkS T n q)).1 = 2 ∧ tkK T n q1 = 6 then gO o (gT T n q1 (fun q2 => gb (G T n (f + 1) 14 E (o + 1) q2 v 0 0 0 0 bt) (fun r => if tkK T n r.1 = 7 ∧ r.2.2.1 = E.2.2.2.2.2.2 (fd E (tkS T n q)).2.1 then gT T n r.1 (fun q3 => some (some (q3, r.2.1, 0, r.2.2.2.2.1.1, bt2 r, []))) else some none))) else some none) = some x) (hd : ¬ o = 20 → 6 * (20 - (o + 1)) + 8 ≤ e) : Tm (fun k => f_F2 k (e + 3) 7 0 L σ) (QPo b u tb.length sz mk x (PmR T n b u al gl Vm tb o mk p sz q v) σ 0 0) := by
  have s0 := Sy_0 h
  have go := tk_go h
  have g1 := go.2.2 (by omega)
  have okn : okN (tkS T n q) := (h.1.2.2.2.2.2.2.2.2 hk).2
  obtain ⟨nr1, nr2⟩ := ev.1.2 (tkS T n q) okn
  have gl1 := ev.1.1
  have b22 := bd.2.1
  refine Tm_suc (fun k => nd_0 k _ _ _) ?_
  rcases gT_any hG with ⟨w1, w2⟩ | ⟨w1, w2⟩
  · refine st_call (C := True) s0.1 (c_takenName (bs := tkS T n q) s0.1.1 hk (Or.inl ⟨w1, rfl⟩)) (Or.inl ⟨rfl, w2⟩)
  refine st_call (C := True) s0.1 (c_takenName (bs := tkS T n q) s0.1.1 hk (Or.inr ⟨w1, rfl⟩)) (Or.inr ⟨_, rfl, trivial, fun τ1 ret n1 n2 hr xk hc => ?_⟩)
  obtain ⟨hr1, hr2⟩ := hr
  have s1 : Sy T n b u al σ tb.length sz mk (0 + n1) (0 + n2) tb o (tkN T n q) v mk p sz [] τ1 := Sy_c0 s0 hr1 xk hc (Nat.le_refl _) (Nat.le_refl _)
  -- what is refused
  have b3 : ∀ L' : LV, x = none → Tm (fun k => f_F2 k (e + 3) 7 3 L' τ1) (QPo b u tb.length sz mk x (PmR T n b u al gl Vm tb o mk p sz q v) σ (0 + n1) (0 + n2)) := by
    intro L' hx
    refine Tm_suc (fun k => nd_3 k _ _ _) ?_
    rw [hx]
    exact st_ref s1.1
  rcases hr2 with ⟨i, e1, lk⟩ | ⟨e1, lk⟩
  · have i256 : i < 256 := by
      have := lk.1
      have := s1.1.1.2.2.2.1.2.1
      omega
    obtain ⟨en0, en1, en2, en3, en4⟩ := nr1 i lk
    obtain ⟨t1, t2, t3, t4, t5, t6, t7⟩ := s1.1.1.2.2.2.1.2.2 i lk.1
    have n1' : ¬ nI i = -1 := fun z => by
      have z' := congrArg uN z
      rw [u_n (by omega)] at z'
      have : uN (-1 : Int32) = 4294967295 := by decide
      omega
    have ii : ¬ (nI i < 0 ∨ 256 ≤ (nI i).toNatClampNeg) := u_in (by rw [u_n (by omega)]; exact i256) (by decide)
    have ci : (nI i).toNatClampNeg = i := n_cl (by omega)
    -- a variable
    have b9 : ∀ (L' : LV) (op : Nat), L'.1 2 = nI i → L'.1 100 = nI op → L'.2.2.1 101 = b → op < 256 → (fd E (tkS T n q)).1 = 1 → Sgm u p gl Vm 1 [em op (nI (tb.getD i e0E).2.2.2.1)] → Tm (fun k => f_F2 k (e + 3) 7 9 L' τ1) (QPo b u tb.length sz mk x (PmR T n b u al gl Vm tb o mk p sz q v) σ (0 + n1) (0 + n2)) := by
      intro L' op l2 l100 lb ho hf sg
      rw [if_pos hf] at w2
      refine Tm_suc (fun k => nd_9 k _ _ _) ?_
      refine Tm_oP (Sy_pp s1) ?_
      rw [l2]
      refine Tm_chk ii ?_
      rw [ci]
      refine st_emit (op := op) s1 lb l100 (by show sz + 0 + 1 ≤ _; omega) (fun τ2 m1 m2 s2 => ?_)
      have s2' : Sy T n b u al σ tb.length sz mk (0 + n1 + m1) (0 + n2 + m2) tb o (tkN T n q) v mk p sz [em op (nI (tb.getD i e0E).2.2.2.1)] τ2 := by
        have z : em op (τ1.2.2.1 (pR9 b) i) = em op (nI (tb.getD i e0E).2.2.2.1) := by rw [t6]
        rw [← z]
        exact s2
      rw [← Option.some.inj w2]
      refine Tm_some (Qfin s2'.1 ⟨_, s2'.1.1, s2'.2, sg, ?_, g1, Nat.le_refl _, Or.inr ⟨rfl, i, _, rfl, lk, rfl⟩⟩)
      show 2 * 1 ≤ 3 * (tkN T n q - q) + 1
      omega
    have b7 : ∀ (L' : LV), L'.1 2 = nI i → ((tb.getD i e0E).2.1 = 0 ∧ L'.1 100 = nI 35 ∨ (tb.getD i e0E).2.1 = 3 ∧ L'.1 100 = nI 41) → Tm (fun k => f_F2 k (e + 3) 7 7 L' τ1) (QPo b u tb.length sz mk x (PmR T n b u al gl Vm tb o mk p sz q v) σ (0 + n1) (0 + n2)) := by
      intro L' l2 hw
      refine Tm_suc (fun k => nd_7 k _ _ _) ?_
      refine Tm_oP (Sy_pp s1) (Tm_oP (Sy_pp s1) ?_)
      rw [l2]
      refine Tm_chk ii ?_
      rw [ci, t5, s1.1.1.2.2.2.2.1.2.1]
      have u42 : u < 42 := ev.2.2.1.2
      rcases hw with ⟨hw, l100⟩ | ⟨hw, l100⟩
      · obtain ⟨z1, z2, z3⟩ := en1 hw
        by_cases ow : (tb.getD i e0E).2.2.1 = u
        · obtain ⟨z4, z5⟩ := z2 ow
          refine Tm_yes (by rw [ow]) ?_
          exact b9 _ 35 l2 l100 rfl (by decide) z1 (Sgm_1 (Nat.le_refl _) (Nat.le_refl _) (It_ld (by rw [u_n (by omega)]; omega) (by rw [u_n (by omega)]; exact z5)))
        · have z4 := z3 ow
          refine Tm_no (fun z => ow ?_) ?_
          · rw [n_eq (by omega) (by omega)] at z; exact z
          · refine Tm_suc (fun k => nd_8 k _ _ _) ?_
            exact b9 _ 36 l2 rfl rfl (by decide) z1 (Sgm_1 (Nat.le_refl _) (Nat.le_refl _) (It_lg (by rw [u_n (by omega)]; exact z4) gl1))
      · obtain ⟨z1, z2, z3, z4⟩ := en2 hw
        refine Tm_yes (by rw [z2]) ?_
        exact b9 _ 41 l2 l100 rfl (by decide) z1 (Sgm_1 (Nat.le_refl _) (Nat.le_refl _) (It_lp (by rw [u_n (by omega)]; exact z3) (by rw [u_n (by omega)]; exact z4)))
    have b4 : ∀ (L' : LV), L'.1 2 = nI i → L'.1 3 = nI (tb.getD i e0E).2.1 → ((tb.getD i e0E).2.1 = 1 → tkK T n (tkN T n q) = 6) → ¬ (tb.getD i e0E).2.1 = 2 → Tm (fun k => f_F2 k (e + 3) 7 4 L' τ1) (QPo b u tb.length sz mk x (PmR T n b u al gl Vm tb o mk p sz q v) σ (0 + n1) (0 + n2)) := by
      intro L' l2 l3 h6 n2'
      refine Tm_suc (fun k => nd_4 k _ _ _) ?_
      rw [l3]
      by_cases k1 : (tb.getD i e0E).2.1 = 1
      · obtain ⟨z1, z2, z3, z4⟩ := en3 k1
        rw [if_neg (by omega), if_pos ⟨z1, h6 k1⟩] at w2
        refine Tm_yes (by rw [k1]; rfl) ?_
        refine Tm_oP (Sy_pp s1) ?_
        rw [l2]
        refine Tm_chk ii ?_
        refine Tm_d ?_
        rw [ci, t6]
        have bd1 : BdX n o (tkN T n q) v mk p (sz + 0) tb.length := BdX_g bd (by omega) go.2.1 (Nat.le_refl _) (Nat.le_refl _) (by omega)
        refine st_call (C := True) s1.1 (c_fcall (qn := q) px s1.1.1 (EvX_k ev s1.1.2.1) bd1 (h6 k1) g1 z4 rfl w2 hd) ?_
        cases x with
        | none => exact Or.inl ⟨rfl, rfl⟩
        | some r0 =>
          refine Or.inr ⟨r0, rfl, trivial, fun τ3 ret3 p1 p2 hr xk3 hc3 => ?_⟩
          obtain ⟨ll, r1, r2, r3, r4, r5, r6, r7⟩ := hr
          have s3 := Sy_ca s1 r1 xk3 hc3 r2 (Nat.le_refl _) (Nat.le_refl _)
          exact Tm_some (Qfin s3.1 ⟨ll, s3.1.1, s3.2, r3, r4, r5, r6, Or.inl ⟨r7, rfl⟩⟩)
      · refine Tm_no (fun z => k1 ?_) ?_
        · have z' : nI (tb.getD i e0E).2.1 = nI 1 := z
          rw [n_eq (by omega) (by decide)] at z'
          exact z'
        · refine Tm_suc (fun k => nd_5 k _ _ _) ?_
          by_cases k3 : (tb.getD i e0E).2.1 = 3
          · refine Tm_yes (by rw [l3, k3]; rfl) ?_
            exact b7 _ l2 (Or.inr ⟨k3, rfl⟩)
          · refine Tm_no (fun z => k3 ?_) ?_
            · rw [l3] at z
              have z' : nI (tb.getD i e0E).2.1 = nI 3 := z
              rw [n_eq (by omega) (by decide)] at z'
              exact z'
            · refine Tm_suc (fun k => nd_6 k _ _ _) ?_
              exact b7 _ l2 (Or.inl ⟨by omega, rfl⟩)
    have b2 : ∀ (L' : LV), L'.1 2 = nI i → L'.1 100 = nI (tb.getD i e0E).2.1 → Tm (fun k => f_F2 k (e + 3) 7 2 L' τ1) (QPo b u tb.length sz mk x (PmR T n b u al gl Vm tb o mk p sz q v) σ (0 + n1) (0 + n2)) := by
      intro L' l2 l100
      refine Tm_suc (fun k => nd_2 k _ _ _) ?_
      rw [l100]
      by_cases k2 : (tb.getD i e0E).2.1 = 2
      · obtain ⟨z1, z2, z3⟩ := en4 k2
        rw [if_neg (by omega), if_neg (fun z => by omega)] at w2
        refine Tm_yes (by rw [k2]; rfl) ?_
        exact b3 _ (Option.some.inj w2).symm
      · refine Tm_no (fun z => k2 ?_) ?_
        · have z' : nI (tb.getD i e0E).2.1 = nI 2 := z
          rw [n_eq (by omega) (by decide)] at z'
          exact z'
        · by_cases k1 : (tb.getD i e0E).2.1 = 1
          · obtain ⟨z1, z2, z3, z4⟩ := en3 k1
            refine Tm_yes (by rw [k1]; rfl) ?_
            by_cases k6 : tkK T n (tkN T n q) = 6
            · refine Tm_yes ((lx_k (kk := 6) s1.1.1 (by decide)).2 k6) ?_
              exact b4 _ l2 rfl (fun _ => k6) k2
            · refine Tm_no (fun z => k6 ((lx_k (kk := 6) s1.1.1 (by decide)).1 z)) ?_
              rw [if_neg (by omega), if_neg (fun z => k6 z.2)] at w2
              exact b3 _ (Option.some.inj w2).symm
          · refine Tm_no (fun z => k1 ?_) ?_
            · have z' : nI (tb.getD i e0E).2.1 = nI 1 := z
              rw [n_eq (by omega) (by decide)] at z'
              exact z'
            · exact b4 _ l2 rfl (fun z => absurd z k1) k2
    rw [e1]
    refine Tm_no n1' ?_
    refine Tm_suc (fun k => nd_1 k _ _ _) ?_
    refine Tm_oP (Sy_pp s1) ?_
    show Tm (fun k => if ¬ (nI i < 0 ∨ 256 ≤ (nI i).toNatClampNeg) then _ else none) _
    refine Tm_chk ii ?_
    refine b2 _ rfl ?_
    show τ1.2.2.1 (pR7 b) (nI i).toNatClampNeg = _
    rw [ci]
    exact t4
  · have f0 := nr2 lk
    rw [if_neg (by omega), if_neg (fun z => by omega)] at w2
    rw [e1]
    refine Tm_yes rfl ?_
    refine Tm_suc (fun k => nd_2 k _ _ _) ?_
    refine Tm_yes rfl ?_
    exact b3 _ (Option.some.inj w2).symm
end CVI
