/-! The class: iters of formers and quantifiers are read. -/
section CVW
variable {σ σ' σ0 τ τ' : CS} {L : LV} {b : Bool} {T : Nat → Int32} {n q q' u al o v mk p sz szB nc0 sz0 mk0 a1 a2 m kk f e t nc r0 c g : Nat} {y w : Int32} {l l' cs cs' : List Int32} {tb tb' es : List Ent} {ns : List Nm} {α : Type} {S : α → Int32 → CS → Prop} {C : Prop} {E E' : En} {gl : Nat × (Nat → Nat → Prop)} {Vm Vm' : Nat → Prop} {bt : BT} {hd : Bool}
theorem it_0 (k d : Nat) (L : LV) (σ : CS) : f_F2 (k + 1) d 5 0 L σ = (oP (sPp σ) (fun b1 => f_F2 k d 5 1 (lI (lI (lI (lI (lI L 2 ((σ.1 (fP b1 11)))) 3 ((-1))) 4 ((-1))) 5 1) 6 0) σ)) := rfl
theorem it_1 (k d : Nat) (L : LV) (σ : CS) : f_F2 (k + 1) d 5 1 L σ = (if 32768 < ((L.1 6)) then (f_F2 k d 5 2 L σ) else (if ((L.1 5)) = 0 then (f_F2 k d 5 2 L σ) else (oP (sPp σ) (fun b3 => if ((L.1 1)) = 0 then (f_F2 k d 5 3 (lI L 7 ((σ.1 (fP b3 11)))) σ) else (oP (sPp σ) (fun b5 => if ¬ (((σ.1 4003)) < 0 ∨ 42 ≤ ((σ.1 4003)).toNatClampNeg) then (f_F2 k d 5 4 (lI (lI L 7 ((σ.1 (fP b3 11)))) 100 ((σ.2.2.1 (pR18 b5) ((σ.1 4003)).toNatClampNeg))) σ) else none)))))) := rfl
theorem it_2 (k d : Nat) (L : LV) (σ : CS) : f_F2 (k + 1) d 5 2 L σ = (some ((0, 0), (uI (uI σ 4014 ((L.1 3))) 4015 ((L.1 4))), (0, 0))) := rfl
theorem it_3 (k d : Nat) (L : LV) (σ : CS) : f_F2 (k + 1) d 5 3 L σ = (oP (sPp σ) (fun b1 => f_F2 k d 5 4 (lI L 100 ((σ.1 (fP b1 19)))) σ)) := rfl
theorem it_4 (k d : Nat) (L : LV) (σ : CS) : f_F2 (k + 1) d 5 4 L σ = (if ((σ.1 3702)) = 14 then (f_F2 k d 5 6 (lI (lI L 8 ((L.1 100))) 100 1) σ) else (f_F2 k d 5 5 (lI L 8 ((L.1 100))) σ)) := rfl
theorem it_5 (k d : Nat) (L : LV) (σ : CS) : f_F2 (k + 1) d 5 5 L σ = (f_F2 k d 5 6 (lI L 100 0) σ) := rfl
theorem it_6 (k d : Nat) (L : LV) (σ : CS) : f_F2 (k + 1) d 5 6 L σ = (ox (f_X5_iterNames k 0 (lI (lI (lI lZ 1 ((L.1 2))) 2 ((L.1 100))) 3 ((L.1 1))) σ) (fun r1 => oP (sPp r1.2.1) (fun b2 => ox (f_X5_expect k 0 (lI lZ 1 46) r1.2.1) (fun r3 => of d (fun e4 => ox (f_F2 k e4 1 0 (lI lZ 1 4) r3.2.1) (fun r4 => if ((L.1 1)) = 0 then (f_F2 k d 5 7 (lI (lI L 9 ((L.1 100))) 10 ((((r1.2.1.1 (fP b2 11))) - ((L.1 7))))) r4.2.1) else (oP (sPp r4.2.1) (fun b6 => op (y_X7_newSlots__P k 0 (lI (lI (lB lZ 0 b6) 1 ((r4.2.1.1 4003))) 2 2) r4.2.1) (fun r7 => f_F2 k d 5 8 (lI (lI (lI L 9 ((L.1 100))) 10 ((((r1.2.1.1 (fP b2 11))) - ((L.1 7))))) 100 r7.1) r7.2))))))))) := rfl
theorem it_7 (k d : Nat) (L : LV) (σ : CS) : f_F2 (k + 1) d 5 7 L σ = (oP (sPp σ) (fun b1 => op (y_X7_newPassing__P k 0 (lI (lB lZ 0 b1) 1 2) σ) (fun r2 => f_F2 k d 5 8 (lI L 100 r2.1) r2.2))) := rfl
theorem it_8 (k d : Nat) (L : LV) (σ : CS) : f_F2 (k + 1) d 5 8 L σ = (oP (sPp σ) (fun b1 => if ((L.1 1)) = 0 then (f_F2 k d 5 9 (lB (lI L 11 ((L.1 100))) 100 b1) σ) else (f_F2 k d 5 10 (lB (lI (lI L 11 ((L.1 100))) 100 69) 101 b1) σ))) := rfl
theorem it_9 (k d : Nat) (L : LV) (σ : CS) : f_F2 (k + 1) d 5 9 L σ = (f_F2 k d 5 10 (lB (lI L 100 64) 101 ((L.2.2.1 100))) σ) := rfl
theorem it_10 (k d : Nat) (L : LV) (σ : CS) : f_F2 (k + 1) d 5 10 L σ = (ox (f_X7_emit__P k 0 (lI (lI (lB lZ 0 ((L.2.2.1 101))) 1 ((L.1 100))) 2 ((L.1 11))) σ) (fun r1 => oP (sPp r1.2.1) (fun b2 => if ((L.1 1)) = 0 then (f_F2 k d 5 11 (lB L 100 b2) r1.2.1) else (f_F2 k d 5 12 (lB (lI L 100 70) 101 b2) r1.2.1)))) := rfl
theorem it_11 (k d : Nat) (L : LV) (σ : CS) : f_F2 (k + 1) d 5 11 L σ = (f_F2 k d 5 12 (lB (lI L 100 65) 101 ((L.2.2.1 100))) σ) := rfl
theorem it_12 (k d : Nat) (L : LV) (σ : CS) : f_F2 (k + 1) d 5 12 L σ = (ox (f_X7_emit__P k 0 (lI (lI (lB lZ 0 ((L.2.2.1 101))) 1 ((L.1 100))) 2 ((L.1 11))) σ) (fun r1 => oP (sPp r1.2.1) (fun b2 => ox (f_X7_word__P k 0 (lI (lB lZ 0 b2) 1 ((((L.1 4)) - r1.1.2))) r1.2.1) (fun r3 => if ((L.1 3)) = ((-1)) then (f_F2 k d 5 14 (lI (lI L 12 r1.1.2) 100 r1.1.2) r3.2.1) else (f_F2 k d 5 13 (lI L 12 r1.1.2) r3.2.1))))) := rfl
theorem it_13 (k d : Nat) (L : LV) (σ : CS) : f_F2 (k + 1) d 5 13 L σ = (f_F2 k d 5 14 (lI L 100 ((L.1 3))) σ) := rfl
theorem it_14 (k d : Nat) (L : LV) (σ : CS) : f_F2 (k + 1) d 5 14 L σ = (if ((L.1 9)) = 0 then (f_F2 k d 5 15 (lI (lI (lI L 3 ((L.1 100))) 4 ((L.1 12))) 100 ((L.1 8))) σ) else (f_F2 k d 5 16 (lI (lI (lI (lI L 3 ((L.1 100))) 4 ((L.1 12))) 100 ((L.1 10))) 101 ((L.1 8))) σ)) := rfl
theorem it_15 (k d : Nat) (L : LV) (σ : CS) : f_F2 (k + 1) d 5 15 L σ = (f_F2 k d 5 16 (lI (lI L 100 0) 101 ((L.1 100))) σ) := rfl
theorem it_16 (k d : Nat) (L : LV) (σ : CS) : f_F2 (k + 1) d 5 16 L σ = (ox (f_X5_iterStore k 0 (lI (lI (lI lZ 1 ((L.1 101))) 2 ((L.1 100))) 3 ((L.1 1))) σ) (fun r1 => f_F2 k d 5 17 (lI L 13 ((L.1 7))) r1.2.1)) := rfl
theorem it_17 (k d : Nat) (L : LV) (σ : CS) : f_F2 (k + 1) d 5 17 L σ = (oP (sPp σ) (fun b1 => if ((σ.1 (fP b1 11))) ≤ ((L.1 13)) then (f_F2 k d 5 18 L σ) else (oP (sPp σ) (fun b3 => if ¬ (((L.1 13)) < 0 ∨ 256 ≤ ((L.1 13)).toNatClampNeg) then (f_F2 k d 5 17 (lI L 13 ((((L.1 13)) + 1))) (uA σ (pR10 b3) ((L.1 13)).toNatClampNeg (vp_nar .boolean 0))) else none)))) := rfl
theorem it_18 (k d : Nat) (L : LV) (σ : CS) : f_F2 (k + 1) d 5 18 L σ = (if ((L.1 1)) = 0 then (f_F2 k d 5 19 L σ) else (ox (f_X5_mark k 0 (lI lZ 1 ((L.1 11))) σ) (fun r2 => ox (f_X5_mark k 0 (lI lZ 1 ((L.1 8))) r2.2.1) (fun r3 => ox (f_X5_mark k 0 (lI lZ 1 ((L.1 10))) r3.2.1) (fun r4 => f_F2 k d 5 19 L r4.2.1))))) := rfl
theorem it_19 (k d : Nat) (L : LV) (σ : CS) : f_F2 (k + 1) d 5 19 L σ = (if ((σ.1 3702)) = 16 then (f_F2 k d 5 21 (lI L 100 1) σ) else (f_F2 k d 5 20 L σ)) := rfl
theorem it_20 (k d : Nat) (L : LV) (σ : CS) : f_F2 (k + 1) d 5 20 L σ = (f_F2 k d 5 21 (lI L 100 0) σ) := rfl
theorem it_21 (k d : Nat) (L : LV) (σ : CS) : f_F2 (k + 1) d 5 21 L σ = (if ((L.1 100)) = 0 then (f_F2 k d 5 22 (lI L 5 ((L.1 100))) σ) else (ox (f_X2_advance k 0 lZ σ) (fun r2 => f_F2 k d 5 22 (lI L 5 ((L.1 100))) r2.2.1))) := rfl
theorem it_22 (k d : Nat) (L : LV) (σ : CS) : f_F2 (k + 1) d 5 22 L σ = (f_F2 k d 5 1 (lI L 6 ((((L.1 6)) + 1))) σ) := rfl
/-- the names of an iter are to be seen -/
theorem st_see {x : Option α} (es : List Ent) (hl : (tb ++ es).length ≤ 256) (cont : ∀ (L' : LV) (τ' : CS), (∀ j, ¬ j = 13 → L'.1 j = L.1 j) → L'.2 = L.2 → Sy T n b u al σ0 nc0 sz0 mk0 a1 a2 (tb ++ seeE es) o q v mk p szB cs τ' → Tm (fun k => f_F2 k (e + 1) 5 18 L' τ') (QPo b u nc0 sz0 mk0 x S σ0 a1 a2)) (hnc : nc0 ≤ tb.length) : ∀ (d i : Nat) (L' : LV) (τ : CS), i + d = es.length → L'.1 13 = nI (tb.length + i) → (∀ j, ¬ j = 13 → L'.1 j = L.1 j) → L'.2 = L.2 → Sy T n b u al σ0 nc0 sz0 mk0 a1 a2 (tb ++ (seeE (es.take i) ++ es.drop i)) o q v mk p szB cs τ → Tm (fun k => f_F2 k (e + 1) 5 17 L' τ) (QPo b u nc0 sz0 mk0 x S σ0 a1 a2) := by
  intro d
  rw [List.length_append] at hl
  have lg : ∀ i, i ≤ es.length → (tb ++ (seeE (es.take i) ++ es.drop i)).length = tb.length + es.length := fun i hi => by
    rw [List.length_append, List.length_append, seeE_l, List.length_take, List.length_drop]
    omega
  induction d with
  | zero =>
    intro i L' τ hi l13 lj lL s1
    have e11 := s1.1.1.2.2.2.1.1
    rw [lg i (by omega)] at e11
    refine Tm_suc (fun k => it_17 k _ _ _) ?_
    refine Tm_oP (Sy_pp s1) ?_
    rw [e11, l13]
    refine Tm_yes (by rw [n_le (by omega) (by omega)]; omega) ?_
    have ei : i = es.length := by omega
    rw [ei, List.take_length, List.drop_length, List.append_nil] at s1
    exact cont L' τ lj lL s1
  | succ d ih =>
    intro i L' τ hi l13 lj lL s1
    have e11 := s1.1.1.2.2.2.1.1
    rw [lg i (by omega)] at e11
    refine Tm_suc (fun k => it_17 k _ _ _) ?_
    refine Tm_oP (Sy_pp s1) ?_
    rw [e11, l13]
    refine Tm_no (by rw [n_le (by omega) (by omega)]; omega) ?_
    refine Tm_oP (Sy_pp s1) ?_
    refine Tm_chk (u_in (by rw [u_n (by omega)]; omega) (by decide)) ?_
    rw [n_cl (p := tb.length + i) (by omega), show vp_nar .boolean 0 = (0 : Int32) from rfl]
    have ho := TbQ_hd (nc := tb.length) (e1 := es.getD i e0E) (hd := false) s1.1.1.2.2.2.1 (i := tb.length + i) (by rw [lg i (by omega)]; omega) (by omega) (see_gd tb es i (by omega))
    rw [see_set tb es i (by omega)] at ho
    have s2 := Sy_tb s1 ho hnc (by rw [lg (i + 1) (by omega)]; omega)
    refine ih (i + 1) _ _ (by omega) ?_ ?_ ?_ s2
    · show nI (tb.length + i) + 1 = _
      rw [n_add1]; rfl
    · intro j hj
      show upd L'.1 13 _ j = _
      rw [upd_other hj]
      exact lj j hj
    · exact lL
theorem RwL_l {xm : List Nat} {p' : Nat} {e0 : Nat × Nat × List Nat} {nl : List (Nat × Nat × List Nat)} : fstP (e0 :: nl) = if nl = [] then e0.1 else fstP nl := by
  cases nl with
  | nil => rfl
  | cons a l => rw [if_neg (by intro z; cases z)]; rfl
theorem c_iters {i0 e0 : Nat} {x : Option RT} (px : ∀ f', f' ≤ f → PXp T n b u al f' e) (h : QS T n b u al tb o q v mk p sz σ) (ev : EvX E b u al gl Vm tb σ) (bd : BdX n o q v mk p sz tb.length) (l1 : L.1 1 = 0) (hG : G T n f 17 E o q v i0 e0 E.2.2.1.length g bt = some x) (hd : 6 * (20 - o) + 8 ≤ e) : Tm (fun k => f_F2 k (e + 1) 5 0 L σ) (QPo b u tb.length sz mk x (fun r _ τ => ItR T n b u al gl Vm tb o mk p sz q v E r τ) σ 0 0) := by
  have s0 := Sy_0 h
  have b22 := bd.2.1
  have n10 := bd.1
  have u42 : u < 42 := ev.2.2.1.2
  have p180 : p ≤ 180 := by
    have := bd.2.2.2.2
    have := h.2.2.2.2.2.2.1.2
    omega
  have evm : ∀ (E2 : En) (tb2 : List Ent) (Vm2 : Nat → Prop) (τ2 : CS), NmR E2 u gl Vm2 tb2 → E2.2.2.2 = E.2.2.2 → XK b u tb.length sz mk σ τ2 → EvX E2 b u al gl Vm2 tb2 τ2 := fun E2 tb2 Vm2 τ2 nm he xk => ⟨nm, PrR_k ev.2.1 xk, ev.2.2.1, by rw [he]; exact ev.2.2.2.1, by rw [he]; exact ev.2.2.2.2⟩
  have lp : ∀ (f1 : Nat), f1 ≤ f → ∀ (K : RT → RG) (acc : List Nm) (E1 : En) (L' : LV) (τ : CS) (a1 a2 q1 v1 p1 i1 e1 it : Nat) (bt1 : BT) (es : List Ent) (cs : List Int32) (xm : List Nat) (nl : List (Nat × Nat × List Nat)), gb (G T n f1 17 E1 o q1 v1 i1 e1 E.2.2.1.length g bt1) K = some x → (∀ r : RT, ∃ r' : RT, K r = some (some r') ∧ r'.1 = r.1 ∧ r'.2.1 = r.2.1 ∧ r'.2.2.2.2.2 = r.2.2.2.2.2 ++ acc) → (E1.1 = E.1 ∧ E1.2.1 = acc ++ E.2.1 ∧ E1.2.2.2 = E.2.2.2) → Sy T n b u al σ tb.length sz mk a1 a2 (tb ++ es) o q1 v1 mk p1 sz cs τ → Row u p gl Vm p1 xm nl cs → (∀ fe nl', nl = fe :: nl' → (∀ i, i = bsl + fe.2.1 ∨ i ∈ fe.2.2 → i ∈ xm) ∧ L'.1 4 = nI (sz + fe.1)) → ((nl = [] → L'.1 3 = -1) ∧ (¬ nl = [] → L'.1 3 = nI (sz + fstP nl) ∧ fstP nl ≤ cs.length)) → NmR E1 u gl (fun i => Vm i ∨ i ∈ xm) (tb ++ es) → RwE E1 E.2.2.1.length (tb ++ es) tb.length → BdX n o q1 v1 mk p1 (sz + cs.length) (tb ++ es).length → 2 * cs.length ≤ 3 * (q1 - q) → q ≤ q1 → v ≤ v1 → it ≤ q1 → L'.1 1 = 0 → L'.1 2 = nI tb.length → L'.1 5 = 1 → L'.1 6 = nI it → Tm (fun k => f_F2 k (e + 1) 5 1 L' τ) (QPo b u tb.length sz mk x (fun r _ τ => ItR T n b u al gl Vm tb o mk p sz q v E r τ) σ a1 a2) := by
    intro f1
    induction f1 with
    | zero =>
      intro _ K acc E1 L' τ a1 a2 q1 v1 p1 i1 e1 it bt1 es cs xm nl hg
      exact absurd hg (by intro z; cases z)
    | succ f1 ih =>
      intro hf K acc E1 L' τ a1 a2 q1 v1 p1 i1 e1 it bt1 es cs xm nl hg hK hE s1 rw1 hn4 hn3 ev1 re1 bd1 ln lq lv li l1 l2 l5 l6
      rw [G17_p, gb_gb] at hg
      have go1 := tk_go s1.1.1
      have b22' := bd1.2.1
      have p3 := bd1.2.2.2.2
      have nt := bd1.2.2.2.1
      have v60 := s1.1.1.2.2.2.2.2.2.1.2
      have la : (tb ++ es).length = tb.length + es.length := List.length_append
      have e11 := s1.1.1.2.2.2.1.1
      have e19 := s1.1.1.2.2.2.2.2.2.2
      have t256 := s1.1.1.2.2.2.1.2.1
      -- from the names on
      have b6 : ∀ (L2 : LV), L2.1 1 = 0 → L2.1 2 = nI tb.length → L2.1 3 = L'.1 3 → L2.1 4 = L'.1 4 → L2.1 6 = nI it → L2.1 7 = nI (tb ++ es).length → L2.1 8 = nI p1 → ((tkK T n q1 = 10 → L2.1 100 = 1) ∧ (¬ tkK T n q1 = 10 → L2.1 100 = 0)) → Tm (fun k => f_F2 k (e + 1) 5 6 L2 τ) (QPo b u tb.length sz mk x (fun r _ τ => ItR T n b u al gl Vm tb o mk p sz q v E r τ) σ a1 a2) := by
        intro L2 m1 m2 m3 m4 m6 m7 m8 m100
        have gi : ∃ z, gIn T n f1 E1 o E.2.2.1.length g q1 v1 bt1 = some z := by
          rcases gb_any hg with ⟨y1, y2⟩ | ⟨r4, y1, y2⟩
          · exact ⟨_, y1⟩
          · exact ⟨_, y1⟩
        obtain ⟨z, hz⟩ := gi
        refine Tm_suc (fun k => it_6 k _ _ _) ?_
        refine st_call (C := True) s1.1 (c_iterNames (r0 := tb.length) s1.1.1 u42 nt (by omega) m2 (by rw [la]; omega) m100 m1 re1 hz) ?_
        rcases gb_any hg with ⟨y1, y2⟩ | ⟨zz, y1, y2⟩
        · rw [hz] at y1
          exact Or.inl ⟨Option.some.inj y1, y2⟩
        rw [hz] at y1
        refine Or.inr ⟨zz, Option.some.inj y1, trivial, fun τ2 ret2 n1 n2 hr xk2 hc2 => ?_⟩
        obtain ⟨es1, i1', i2, i3, i4, i5, i6⟩ := hr
        have s2 : Sy T n b u al σ tb.length sz mk (a1 + n1) (a2 + n2) (tb ++ es ++ es1) o zz.1 zz.2.1 mk (p1 + es1.length) sz cs τ2 := Sy_c0 s1 i2 xk2 hc2 (by rw [List.length_append, la]; omega) s1.1.2.2.2.2.2
        have lb : (tb ++ es ++ es1).length = tb.length + es.length + es1.length := by rw [List.length_append, la]
        have e112 := s2.1.1.2.2.2.1.1
        rw [lb] at e112
        have v602 := s2.1.1.2.2.2.2.2.2.1.2
        have t2562 := s2.1.1.2.2.2.1.2.1
        rw [lb] at t2562
        have gz := tk_go s2.1.1
        unfold gIt at y2
        rw [gb_gW] at y2
        refine Tm_oP (Sy_pp s2) ?_
        refine st_expect (kk := 46) s2 (by decide) rfl (gW_a3 y2) (fun τ3 ret3 n3 n4 c3 s3 => ?_)
        obtain ⟨k46, c3⟩ := c3
        have w2 := tk_wl (m := 2) s2.1.1 k46 (by decide) rfl
        have kn1 : zz.2.2.1 = 0 ∨ zz.2.2.1 = 1 := by
          rcases i6 with w | w
          · exact Or.inl w.1
          · exact Or.inr w.1
        refine Tm_d ?_
        have ev3 : EvX (rowN E1 zz.2.2.2.2.2) b u al gl (fun i => Vm i ∨ i ∈ xm) (tb ++ es ++ es1) τ3 := evm _ _ _ _ (NmR_h ev1 i3) hE.2.2 s3.1.2.1
        have bd3 : BdX n o (tkN T n zz.1) zz.2.1 mk (p1 + es1.length) (sz + cs.length) (tb ++ es ++ es1).length := by
          obtain ⟨d1, d2, d3, d4, d5⟩ := bd1
          rw [la] at d4
          exact ⟨d1, by omega, by omega, by rw [lb]; omega, by omega⟩
        have ec : τ2.1 (fP b 11) - L2.1 7 = nI es1.length := by
          rw [e112, m7, la, n_sub (by omega) (by omega)]
          exact congrArg nI (by omega)
        rw [gb_gb] at c3
        rcases gb_any c3 with ⟨y5, y6⟩ | ⟨s, y5, y6⟩
        · exact st_exp (C := True) (px f1 (by omega)) (Or.inr ⟨rfl, rfl⟩) s3 ev3 bd3 rfl hd y5 (Or.inl ⟨rfl, y6⟩) (fun _ _ _ _ _ _ z => by cases z)
        refine st_exp (C := True) (px f1 (by omega)) (Or.inr ⟨rfl, rfl⟩) s3 ev3 bd3 rfl hd y5 (Or.inr ⟨s, rfl, trivial⟩) (fun τ4 ret4 n5 n6 s' l4 hz4 _ s4 xk4 sg4 ln4 lt4 lv4 tg4 => ?_)
        cases hz4
        have go4 := tk_go s4.1.1
        have v604 := s4.1.1.2.2.2.2.2.2.1.2
        have lc : (cs ++ l4).length = cs.length + l4.length := List.length_append
        generalize hcnt : es1.length = cnt at *
        -- behind the code of the iter, but for its names
        have b16 : ∀ (L5 : LV) (τ5 : CS) (a5 a6 c0 fx : Nat) (wd : Int32), L5.1 1 = 0 → L5.1 2 = nI tb.length → L5.1 3 = nI (sz + fx) → fx = (if nl = [] then cs.length + l4.length + 1 else fstP nl) → L5.1 4 = nI (sz + (cs.length + l4.length + 1)) → L5.1 6 = nI it → L5.1 7 = nI (tb ++ es).length → L5.1 100 = nI c0 → L5.1 101 = nI p1 → (c0 = 0 ∧ cnt = 1 ∨ c0 = cnt ∧ zz.2.2.1 = 1) → (∀ fe nl', nl = fe :: nl' → wd = nI fe.1 - nI (cs.length + l4.length + 1)) → Sy T n b u al σ tb.length sz mk a5 a6 (tb ++ es ++ es1) o s.1 s.2.1 mk (p1 + cnt + 2) sz (cs ++ (l4 ++ [em 64 (nI (p1 + cnt)), em 65 (nI (p1 + cnt)), wd])) τ5 → Tm (fun k => f_F2 k (e + 1) 5 16 L5 τ5) (QPo b u tb.length sz mk x (fun r _ τ => ItR T n b u al gl Vm tb o mk p sz q v E r τ) σ a5 a6) := by
          intro L5 τ5 a5 a6 c0 fx wd h1 h2 h3 hfx h4 h6 h7 h100 h101 hc0 hwd s5
          have lcs : (cs ++ (l4 ++ [em 64 (nI (p1 + cnt)), em 65 (nI (p1 + cnt)), wd])).length = cs.length + l4.length + 3 := by rw [List.length_append, List.length_append]; show cs.length + (l4.length + 3) = _; omega
          refine Tm_suc (fun k => it_16 k _ _ _) ?_
          refine st_store (k0 := p1) (c0 := c0) s5 h101 h100 h1 (by omega) (by rw [lcs]; omega) (fun τ6 ret6 n7 n8 s6 => ?_)
          have hlo : (if c0 = 0 then [em 66 (nI p1)] else [em 67 (nI p1), nI c0]).length ≤ 1 + zz.2.2.1 ∧ 1 ≤ (if c0 = 0 then [em 66 (nI p1)] else [em 67 (nI p1), nI c0]).length := by
            rcases hc0 with ⟨z1, z2⟩ | ⟨z1, z2⟩
            · rw [if_pos z1]; exact ⟨by show 1 ≤ _; omega, by show 1 ≤ 1; omega⟩
            · rw [if_neg (by omega)]; exact ⟨by show 2 ≤ _; omega, by show 1 ≤ 2; omega⟩
          have hnm : Nms p1 cnt (if c0 = 0 then [em 66 (nI p1)] else [em 67 (nI p1), nI c0]) := by
            refine ⟨by omega, ?_⟩
            rcases hc0 with ⟨z1, z2⟩ | ⟨z1, z2⟩
            · rw [if_pos z1]; exact Or.inl ⟨z2, rfl⟩
            · rw [if_neg (by omega), z1]; exact Or.inr rfl
          generalize (if c0 = 0 then [em 66 (nI p1)] else [em 67 (nI p1), nI c0]) = ins at *
          have eap : cs ++ (l4 ++ [em 64 (nI (p1 + cnt)), em 65 (nI (p1 + cnt)), wd]) ++ ins = cs ++ (l4 ++ (em 64 (nI (p1 + cnt)) :: em 65 (nI (p1 + cnt)) :: wd :: ins)) := by rw [List.append_assoc, List.append_assoc]; rfl
          rw [eap] at s6
          have lfull : (cs ++ (l4 ++ (em 64 (nI (p1 + cnt)) :: em 65 (nI (p1 + cnt)) :: wd :: ins))).length = cs.length + l4.length + 3 + ins.length := by rw [← eap, List.length_append, lcs]
          have row2 := Row_ad (wd := wd) rw1 (fun i z => z) sg4 (by omega) hnm (fun fe nl' z => ⟨hwd fe nl' z, (hn4 fe nl' z).1⟩)
          generalize hcs' : cs ++ (l4 ++ (em 64 (nI (p1 + cnt)) :: em 65 (nI (p1 + cnt)) :: wd :: ins)) = cs' at *
          generalize hxm' : nmL p1 cnt ++ (bsl + (p1 + cnt)) :: xm = xm' at *
          have hV : ∀ i, i ∈ xm → i ∈ xm' := fun i z => by rw [← hxm']; exact List.mem_append_right _ (List.mem_cons_of_mem _ z)
          have nms2 := NsR_see i3
          have ls1 : (seeE es1).length = cnt := by rw [seeE_l, hcnt]
          have nm2 : NmR (rowN (seeN E1 zz.2.2.2.2.2) zz.2.2.2.2.2) u gl (fun i => Vm i ∨ i ∈ xm') (tb ++ es ++ seeE es1) := by
            refine NmR_s ev1 nms2 (by rw [ls1]; omega) (fun i hi => ?_) (fun i z => z.imp id (hV i)) u42
            rw [ls1] at hi
            refine Or.inr ?_
            rw [← hxm']
            exact List.mem_append_left _ ((nmL_m cnt _).2 ⟨by omega, by omega⟩)
          have re2 : RwE (rowN (seeN E1 zz.2.2.2.2.2) zz.2.2.2.2.2) E.2.2.1.length (tb ++ es ++ seeE es1) tb.length := RwE_ns re1 (by rw [la]; omega) nms2
          have hE2 : (rowN (seeN E1 zz.2.2.2.2.2) zz.2.2.2.2.2).1 = E.1 ∧ (rowN (seeN E1 zz.2.2.2.2.2) zz.2.2.2.2.2).2.1 = (zz.2.2.2.2.2 ++ acc) ++ E.2.1 ∧ (rowN (seeN E1 zz.2.2.2.2.2) zz.2.2.2.2.2).2.2.2 = E.2.2.2 := by
            refine ⟨hE.1, ?_, hE.2.2⟩
            show zz.2.2.2.2.2 ++ E1.2.1 = _
            rw [hE.2.1, List.append_assoc]
          have lse : (tb ++ es ++ seeE es1).length = tb.length + es.length + cnt := by rw [List.length_append, la, ls1]
          have eas : tb ++ es ++ seeE es1 = tb ++ (es ++ seeE es1) := List.append_assoc _ _ _
          have bd2 : BdX n o s.1 s.2.1 mk (p1 + cnt + 2) (sz + cs'.length) (tb ++ es ++ seeE es1).length := by
            obtain ⟨d1, d2, d3, d4, d5⟩ := bd1
            rw [la] at d4
            exact ⟨d1, by rw [lfull]; omega, by omega, by rw [lse]; omega, by omega⟩
          have fl : fstP ((cs.length + l4.length + 1, p1 + cnt, xm) :: nl) = fx := by rw [hfx]; exact RwL_l (xm := []) (p' := 0)
          have fxl : fx ≤ cs'.length := by
            rw [hfx, lfull]
            by_cases z : nl = []
            · rw [if_pos z]; omega
            · rw [if_neg z]
              have := (hn3.2 z).2
              omega
          refine st_see (tb := tb ++ es) (L := lI L5 13 (L5.1 7)) es1 (by rw [lb]; omega) (fun L7 τ7 k1 k2 s7 => ?_) (by rw [la]; omega) es1.length 0 _ τ6 (by omega) (by show L5.1 7 = _; rw [h7]; rfl) (fun _ _ => rfl) rfl s6
          have g1' : L7.1 1 = 0 := by rw [k1 1 (by decide)]; exact h1
          refine Tm_suc (fun k => it_18 k _ _ _) ?_
          refine Tm_yes g1' ?_
          refine Tm_suc (fun k => it_19 k _ _ _) ?_
          by_cases k12 : tkK T n s.1 = 12
          · rw [if_pos k12, gb_gT] at y6
            simp only [gb_gb] at y6
            refine Tm_yes ((lx_k (kk := 12) s7.1.1 (by decide)).2 k12) ?_
            refine Tm_suc (fun k => it_21 k _ _ _) ?_
            refine Tm_no (by show ¬ (1 : Int32) = 0; decide) ?_
            refine st_advY s7 (gT_any y6) (fun τ8 r8 er c8 s8 => ?_)
            rw [er]
            refine Tm_suc (fun k => it_22 k _ _ _) ?_
            have g8 := go4.2.2 (by omega)
            rw [eas] at s8 nm2 re2 bd2
            refine ih (by omega) _ (zz.2.2.2.2.2 ++ acc) _ _ τ8 _ _ (tkN T n s.1) s.2.1 (p1 + cnt + 2) _ _ (it + 1) _ (es ++ seeE es1) cs' xm' _ c8 (fun r => ?_) hE2 s8 row2 (fun fe nl' z => ?_) ⟨fun z => (by cases z), fun _ => ⟨?_, by rw [fl]; exact fxl⟩⟩ nm2 re2 (BdX_g bd2 (by omega) go4.2.1 (Nat.le_refl _) (Nat.le_refl _) (by omega)) (by rw [lfull]; omega) (by omega) (by omega) (by omega) ?_ ?_ rfl ?_
            · obtain ⟨r', e1', e2', e3', e4'⟩ := hK (r.1, r.2.1, 0, r.2.2.2.1, r.2.2.2.2.1, r.2.2.2.2.2 ++ zz.2.2.2.2.2)
              exact ⟨r', e1', e2', e3', by rw [e4', List.append_assoc]⟩
            · cases z
              refine ⟨fun i hi => ?_, ?_⟩
              · rcases hi with hi | hi
                · rw [hi, ← hxm']
                  exact List.mem_append_right _ List.mem_cons_self
                · exact hV i hi
              · show L7.1 4 = _
                rw [k1 4 (by decide)]; exact h4
            · show L7.1 3 = _
              rw [k1 3 (by decide), fl]; exact h3
            · show L7.1 1 = _
              exact g1'
            · show L7.1 2 = _
              rw [k1 2 (by decide)]; exact h2
            · show L7.1 6 + 1 = _
              rw [k1 6 (by decide)]
              show L5.1 6 + 1 = _
              rw [h6, n_add1]
          · rw [if_neg k12] at y6
            obtain ⟨r', e1', e2', e3', e4'⟩ := hK (s.1, s.2.1, 0, (if i1 = 0 then s.2.2.2.2.1.1 else i1), (if i1 = 0 then bNode s.2.2.2.2.1 30 (if zz.2.2.1 = 0 then 0 else 1) (nI zz.2.2.2.1) (nI s.2.2.2.1) else bSet (bNode s.2.2.2.2.1 30 (if zz.2.2.1 = 0 then 0 else 1) (nI zz.2.2.2.1) (nI s.2.2.2.1)) 9 e1 (nI s.2.2.2.2.1.1)), zz.2.2.2.2.2)
            have hx : x = some r' := by
              have y7 : K (s.1, s.2.1, 0, (if i1 = 0 then s.2.2.2.2.1.1 else i1), (if i1 = 0 then bNode s.2.2.2.2.1 30 (if zz.2.2.1 = 0 then 0 else 1) (nI zz.2.2.2.1) (nI s.2.2.2.1) else bSet (bNode s.2.2.2.2.1 30 (if zz.2.2.1 = 0 then 0 else 1) (nI zz.2.2.2.1) (nI s.2.2.2.1)) 9 e1 (nI s.2.2.2.2.1.1)), zz.2.2.2.2.2) = some x := y6
              rw [e1'] at y7
              exact (Option.some.inj y7).symm
            refine Tm_no (fun z => k12 ((lx_k (kk := 12) s7.1.1 (by decide)).1 z)) ?_
            refine Tm_suc (fun k => it_20 k _ _ _) ?_
            refine Tm_suc (fun k => it_21 k _ _ _) ?_
            refine Tm_yes rfl ?_
            refine Tm_suc (fun k => it_22 k _ _ _) ?_
            refine Tm_suc (fun k => it_1 k _ _ _) ?_
            refine Tm_no (by show ¬ nI 32768 < L7.1 6 + 1; rw [k1 6 (by decide)]; show ¬ nI 32768 < L5.1 6 + 1; rw [h6, n_add1, n_lt (by decide) (by omega)]; omega) ?_
            refine Tm_yes rfl ?_
            refine Tm_suc (fun k => it_2 k _ _ _) ?_
            have e31 : L7.1 3 = nI (sz + fx) := by rw [k1 3 (by decide)]; exact h3
            have e41 : L7.1 4 = nI (sz + (cs.length + l4.length + 1)) := by rw [k1 4 (by decide)]; exact h4
            have fc := fP_c b 19
            have s9 : Sy T n b u al σ tb.length sz mk (a5 + n7) (a6 + n8) (tb ++ es ++ seeE es1) o s.1 s.2.1 mk (p1 + cnt + 2) sz cs' (uI (uI τ7 4014 (L7.1 3)) 4015 (L7.1 4)) := by
              refine ⟨Sx_f s7.1 (fun j hj => by rw [uI_o (by omega), uI_o (by omega)]) rfl (by rw [uI_o (by decide), uI_o (by decide)]; exact s7.1.1.2.2.2.2.2.1.1) s7.1.1.2.2.2.2.2.1.2 (by rw [uI_o (by decide), uI_o (by decide)]; exact s7.1.1.2.2.1.1) (Nat.le_refl _) s7.1.2.2.2.2.2 (by rw [uI_o (by omega), uI_o (by omega)]; exact s7.1.1.2.2.2.2.2.2.2), s7.2⟩
            rw [hx]
            rw [eas] at s9 nm2 bd2
            have ev9 : EvX (seeN E r'.2.2.2.2.2) b u al gl (fun i => Vm i ∨ i ∈ xm') (tb ++ (es ++ seeE es1)) (uI (uI τ7 4014 (L7.1 3)) 4015 (L7.1 4)) := by
              refine EvX_e (evm _ _ _ _ nm2 hE2.2.2 s9.1.2.1) hE2.1.symm ?_ hE2.2.2.symm
              rw [hE2.2.1, e4']
              rfl
            refine Tm_some (Qfin s9.1 ⟨es ++ seeE es1, cs', p1 + cnt + 2, xm', _, nl, by rw [e2', e3']; exact s9.1.1, s9.2, row2, fun i hi => ?_, ⟨?_, ?_⟩, ev9, by rw [e2', e3']; exact bd2, ?_, ?_, ?_⟩)
            · rcases hi with hi | hi
              · rw [hi, ← hxm']
                exact List.mem_append_right _ List.mem_cons_self
              · exact hV i hi
            · rw [uI_o (by decide), uI_s, fl]; exact e31
            · rw [uI_s]; exact e41
            · rw [e2', lfull]
              show 2 * (cs.length + l4.length + 3 + ins.length) ≤ 3 * (s.1 - q)
              omega
            · rw [e2']; show q < s.1; omega
            · rw [e3']; show v ≤ s.2.1; omega
        refine Tm_yes m1 ?_
        refine Tm_suc (fun k => it_7 k _ _ _) ?_
        refine Tm_oP (Sy_pp s4) ?_
        refine Tm_op (c_newPassing (k0 := 2) s4 (by omega) rfl rfl) (fun r7 z7 => ?_)
        obtain ⟨er7, s7⟩ := z7
        refine Tm_suc (fun k => it_8 k _ _ _) ?_
        refine Tm_oP (Sy_pp s7) ?_
        refine Tm_yes m1 ?_
        refine Tm_suc (fun k => it_9 k _ _ _) ?_
        refine Tm_suc (fun k => it_10 k _ _ _) ?_
        refine st_emit (op := 64) s7 rfl rfl (by rw [lc]; omega) (fun τ8 x1 x2 s8 => ?_)
        refine Tm_oP (Sy_pp s8) ?_
        refine Tm_yes m1 ?_
        refine Tm_suc (fun k => it_11 k _ _ _) ?_
        refine Tm_suc (fun k => it_12 k _ _ _) ?_
        have ld : ∀ w : Int32, (cs ++ l4 ++ [em 64 w]).length = cs.length + l4.length + 1 := fun w => by rw [List.length_append, lc]; rfl
        refine st_emit (op := 65) s8 rfl rfl (by rw [ld]; omega) (fun τ9 x3 x4 s9 => ?_)
        refine Tm_oP (Sy_pp s9) ?_
        have le' : ∀ w w' : Int32, (cs ++ l4 ++ [em 64 w] ++ [em 65 w']).length = cs.length + l4.length + 2 := fun w w' => by rw [List.length_append, ld]; rfl
        refine st_word s9 rfl (by rw [le']; omega) (fun τ10 x5 x6 s10 => ?_)
        have s10' : Sy T n b u al σ tb.length sz mk (a1 + n1 + n3 + n5 + x1 + x3 + x5) (a2 + n2 + n4 + n6 + x2 + x4 + x6) (tb ++ es ++ es1) o s.1 s.2.1 mk (p1 + cnt + 2) sz (cs ++ (l4 ++ [em 64 (nI (p1 + cnt)), em 65 (nI (p1 + cnt)), L2.1 4 - nI (sz + (cs.length + l4.length + 1))])) τ10 := by
          have e1' : cs ++ (l4 ++ [em 64 (nI (p1 + cnt)), em 65 (nI (p1 + cnt)), L2.1 4 - nI (sz + (cs.length + l4.length + 1))]) = cs ++ l4 ++ [em 64 (nI (p1 + cnt))] ++ [em 65 (nI (p1 + cnt))] ++ [L2.1 4 - nI (sz + (cs.length + l4.length + 1))] := by simp only [List.append_assoc]; rfl
          rw [e1', ← er7]
          have e2' := ld r7.1
          have s10'' : Sy T n b u al σ tb.length sz mk (a1 + n1 + n3 + n5 + x1 + x3 + x5) (a2 + n2 + n4 + n6 + x2 + x4 + x6) (tb ++ es ++ es1) o s.1 s.2.1 mk (p1 + cnt + 2) sz (cs ++ l4 ++ [em 64 r7.1] ++ [em 65 r7.1] ++ [L2.1 4 - nI (sz + (cs ++ l4 ++ [em 64 r7.1]).length)]) τ10 := s10
          rw [e2'] at s10''
          exact s10''
        have nxe : nI (sz + (cs ++ l4 ++ [em 64 r7.1]).length) = nI (sz + (cs.length + l4.length + 1)) := by rw [ld]
        have hwd : ∀ fe nl', nl = fe :: nl' → L2.1 4 - nI (sz + (cs.length + l4.length + 1)) = nI fe.1 - nI (cs.length + l4.length + 1) := fun fe nl' z => by
          have z2 := RwL_le nl rw1.2.2.2.1 fe (by rw [z]; exact List.mem_cons_self)
          rw [m4, (hn4 fe nl' z).2]
          exact n_ss sz fe.1 (cs.length + l4.length + 1) (by omega) (by omega)
        -- which is first
        have b14 : ∀ (L6 : LV) (fx : Nat), L6.1 1 = 0 → L6.1 2 = nI tb.length → L6.1 6 = nI it → L6.1 7 = nI (tb ++ es).length → L6.1 8 = nI p1 → L6.1 9 = L2.1 100 → L6.1 10 = nI cnt → L6.1 12 = nI (sz + (cs.length + l4.length + 1)) → L6.1 100 = nI (sz + fx) → fx = (if nl = [] then cs.length + l4.length + 1 else fstP nl) → Tm (fun k => f_F2 k (e + 1) 5 14 L6 τ10) (QPo b u tb.length sz mk x (fun r _ τ => ItR T n b u al gl Vm tb o mk p sz q v E r τ) σ (a1 + n1 + n3 + n5 + x1 + x3 + x5) (a2 + n2 + n4 + n6 + x2 + x4 + x6)) := by
          intro L6 fx h1 h2 h6 h7 h8 h9 h10 h12 h100 hfx
          refine Tm_suc (fun k => it_14 k _ _ _) ?_
          rw [h9]
          rcases i6 with ⟨z1, z2, z3⟩ | ⟨z1, z2⟩
          · refine Tm_yes (m100.2 z3) ?_
            refine Tm_suc (fun k => it_15 k _ _ _) ?_
            exact b16 _ τ10 _ _ 0 fx _ h1 h2 h100 hfx h12 h6 h7 rfl h8 (Or.inl ⟨rfl, z2⟩) hwd s10'
          · refine Tm_no (by rw [m100.1 z2]; decide) ?_
            exact b16 _ τ10 _ _ cnt fx _ h1 h2 h100 hfx h12 h6 h7 h10 h8 (Or.inr ⟨rfl, z1⟩) hwd s10'
        by_cases nln : nl = []
        · refine Tm_yes (by show L2.1 3 = -1; rw [m3]; exact hn3.1 nln) ?_
          refine b14 _ (cs.length + l4.length + 1) m1 m2 m6 m7 m8 rfl ec nxe nxe ?_
          rw [if_pos nln]
        · obtain ⟨h31, h32⟩ := hn3.2 nln
          refine Tm_no ?_ ?_
          · show ¬ L2.1 3 = -1
            rw [m3, h31]
            intro z
            have z' := congrArg uN z
            rw [u_n (by omega)] at z'
            have : uN (-1 : Int32) = 4294967295 := by decide
            omega
          · refine Tm_suc (fun k => it_13 k _ _ _) ?_
            refine b14 _ (fstP nl) m1 m2 m6 m7 m8 rfl ec nxe (by show L2.1 3 = _; rw [m3]; exact h31) ?_
            rw [if_neg nln]
      refine Tm_suc (fun k => it_1 k _ _ _) ?_
      refine Tm_no (by rw [l6]; show ¬ nI 32768 < nI it; rw [n_lt (by decide) (by omega)]; omega) ?_
      refine Tm_no (by rw [l5]; decide) ?_
      refine Tm_oP (Sy_pp s1) ?_
      refine Tm_yes l1 ?_
      refine Tm_suc (fun k => it_3 k _ _ _) ?_
      refine Tm_oP (Sy_pp s1) ?_
      refine Tm_suc (fun k => it_4 k _ _ _) ?_
      by_cases k10 : tkK T n q1 = 10
      · refine Tm_yes ((lx_k (kk := 10) s1.1.1 (by decide)).2 k10) ?_
        exact b6 _ l1 l2 rfl rfl l6 e11 e19 ⟨fun _ => rfl, fun z => absurd k10 z⟩
      · refine Tm_no (fun z => k10 ((lx_k (kk := 10) s1.1.1 (by decide)).1 z)) ?_
        refine Tm_suc (fun k => it_5 k _ _ _) ?_
        exact b6 _ l1 l2 rfl rfl l6 e11 e19 ⟨fun z => absurd z k10, fun _ => rfl⟩
  refine Tm_suc (fun k => it_0 k _ _ _) ?_
  refine Tm_oP (Sy_pp s0) ?_
  have s0' : Sy T n b u al σ tb.length sz mk 0 0 (tb ++ []) o q v mk p sz [] σ := by rw [List.append_nil]; exact s0
  refine lp f (Nat.le_refl _) (fun r => some (some r)) [] E _ σ 0 0 q v p i0 e0 0 bt [] [] [] [] (by rw [gb_id]; exact hG) (fun r => ⟨r, rfl, rfl, rfl, by rw [List.append_nil]⟩) ⟨rfl, rfl, rfl⟩ s0' (Row_0 p180) (fun fe nl' z => by cases z) ⟨fun _ => rfl, fun z => absurd rfl z⟩ ?_ ?_ ?_ (by show 2 * 0 ≤ _; omega) (Nat.le_refl _) (Nat.le_refl _) (Nat.zero_le _) l1 s0.1.1.2.2.2.1.1 rfl rfl
  · rw [List.append_nil]
    exact ⟨ev.1.1, fun bs ok => ⟨fun i lk => EntR_m ((ev.1.2 bs ok).1 i lk) rfl rfl (fun i z => Or.inl z), (ev.1.2 bs ok).2⟩⟩
  · rw [List.append_nil]
    refine ⟨Nat.le_refl _, fun bs => ⟨fun z => ?_, fun z => ?_⟩⟩
    · obtain ⟨nm, z1, z2⟩ := z
      rw [Nat.sub_self, List.take_zero] at z1
      cases z1
    · obtain ⟨j, z1, z2, z3⟩ := z
      omega
  · rw [List.append_nil]
    exact bd
end CVW
