/-! The class: blocks are read whole. -/
section CYA
variable {σ σ' σ0 τ τ' τ0 : CS} {L : LV} {b : Bool} {T : Nat → Int32} {n q q' u al o v mk mk' p sz sz' szB szE nc nc0 sz0 mk0 a1 a2 m kk f e s0 ow a t0 g D w st w' st' M nm deep vv np lp N Bd ns nb k d P h st0 b0 it q0 v0 : Nat} {y qh qh' y0 y1 wd x0 x1 x3 : Int32} {l l' cs cs' cs2 ll lt lt0 co bo : List Int32} {tb : List Ent} {E : En} {gl : Nat × (Nat → Nat → Prop)} {Vm : Nat → Prop} {Pc : Nat → Nat → Prop} {MD : Nat → Nat → Nat} {md : Nat → Nat} {bt : BT} {ks qs qs' qa qb js es qsI : List Nat} {lo lo' : Option Nat} {s : SB}
/-- a statement is refused -/
theorem c_blBad (hs : BlS T n b u al gl Pc Vm σ a1 a2 tb o mk N q0 v0 w st0 lo qh (q, v, st) it τ) (cx : CxS n E b u al gl Vm Pc MD tb lp lo σ) (hst : isSt (tkK T n q)) (hbad : Bad (tkK T n q) o st u lo) (l1 : L.1 1 = nI it) : Tm (fun k => f_F3 k (d + 1) 0 1 L τ) (ZPo b u tb.length N mk none (fun r _ τ => BlR T n b u al gl Pc Vm tb o mk N q0 v0 w st0 lo qh r τ) σ a1 a2) := by
  obtain ⟨cs, qs, ns, s1, r4, r5, ⟨r6, r6', r6''⟩, ⟨r7, r8⟩, hit⟩ := hs
  have hit' : it ≤ st := hit
  have st4 : st ≤ 400 := s1.2.2.2.1.2
  refine Tm_suc (fun k => bk_1 k _ _ _) ?_
  refine Tm_no (fun z => by rw [l1] at z; exact absurd ((n_lt (p := 400) (q := it) (by decide) (by omega)).1 z) (by omega)) ?_
  refine Tm_op (c_begins s1.1.1) (fun r2 z2 => ?_)
  refine Tm_no (by rw [z2.2.1 hst]; decide) ?_
  rw [z2.1]
  exact zt_call (C := True) (z := none) s1 (c_check s1.1.1 s1.2.2 (by have := cx.2.2.1; omega) (fun p e => by have := cx.2.2.2.2 p e; omega) (Or.inl ⟨hbad, rfl⟩)) (Or.inl ⟨rfl, rfl⟩)
/-- one statement -/
theorem c_blStep {z1 zF : Option (Nat × Nat × Nat)} (hs : BlS T n b u al gl Pc Vm σ a1 a2 tb o mk N q0 v0 w st0 lo qh (q, v, st) it τ) (cx : CxS n E b u al gl Vm Pc MD tb lp lo σ) (bd : BdB n o q0 v0 mk N w tb.length) (hst : isSt (tkK T n q)) (hbad : ¬ Bad (tkK T n q) o st u lo) (l1 : L.1 1 = nI it) (run : ∀ (N : Nat) (qh : Int32) (σ : CS) (L : LV), QS T n b u al tb o q v mk 0 (N + 1) σ → ZF b u w (st + 1) lo qh σ → cdr b σ N = em 0 (nI q) → CxS n E b u al gl Vm Pc MD tb lp lo σ → BdB n o q v mk N w tb.length → L.1 1 = nI N → Tm (fun k => f_F3 k d 4 0 L σ) (ZPo b u tb.length N mk z1 (fun r _ τ => S1T T n b u al gl Pc Vm tb o mk N q v w (st + 1) lo qh (bdO o v) r τ) σ 0 0)) (h0 : z1 = none → zF = none) (hm : ∀ r, z1 = some r → st + 1 ≤ r.2.2) (hn : ∀ (r : Nat × Nat × Nat), z1 = some r → ∀ (τ' : CS) (L' : LV) (n1 n2 : Nat), BlS T n b u al gl Pc Vm σ n1 n2 tb o mk N q0 v0 w st0 lo qh r (it + 1) τ' → L'.1 1 = nI (it + 1) → Tm (fun k => f_F3 k (d + 1) 0 1 L' τ') (ZPo b u tb.length N mk zF (fun r _ τ => BlR T n b u al gl Pc Vm tb o mk N q0 v0 w st0 lo qh r τ) σ n1 n2)) : Tm (fun k => f_F3 k (d + 1) 0 1 L τ) (ZPo b u tb.length N mk zF (fun r _ τ => BlR T n b u al gl Pc Vm tb o mk N q0 v0 w st0 lo qh r τ) σ a1 a2) := by
  obtain ⟨cs, qs, ns, s1, r4, r5, ⟨r6, r6', r6''⟩, ⟨r7, r8⟩, hit⟩ := hs
  have hit' : it ≤ st := hit
  have r6a : 2 * cs.length ≤ 7 * (q - q0) := r6
  have r7a : q0 ≤ q := r7
  have r8a : v0 ≤ v := r8
  have r6b : ns + st0 ≤ st := r6'
  have st4 : st ≤ 400 := s1.2.2.2.1.2
  have st5 : ¬ st = 400 := fun z => hbad (Or.inr (Or.inl z))
  have n10 := cx.1.2.2.2.2
  obtain ⟨bd1, bd2, bd3, bd4⟩ := bd
  have go := tk_go s1.1.1
  have hbi : ¬ tkK T n q = 25 := fun z => by rcases hst with y | y | y | y | y | y <;> omega
  have g1 := go.2.2 (by show ¬ tkK T n q = 25; exact hbi)
  refine Tm_suc (fun k => bk_1 k _ _ _) ?_
  refine Tm_no (fun z => by rw [l1] at z; exact absurd ((n_lt (p := 400) (q := it) (by decide) (by omega)).1 z) (by omega)) ?_
  refine Tm_op (c_begins s1.1.1) (fun r2 z2 => ?_)
  refine Tm_no (by rw [z2.2.1 hst]; decide) ?_
  rw [z2.1]
  refine zt_call (C := True) (z := some ()) s1 (c_check s1.1.1 s1.2.2 (by have := cx.2.2.1; omega) (fun p e => by have := cx.2.2.2.2 p e; omega) (Or.inr ⟨hbad, rfl⟩)) (Or.inr ⟨(), rfl, trivial, fun τ2 ret2 n1 n2 e2 xk2 hc2 => ?_⟩)
  have e2' : τ2 = τ := e2
  rw [e2'] at hc2
  rw [e2']
  have s2 : Zy T n b u al σ tb.length N mk (a1 + n1) (a2 + n2) tb o q v mk w st lo (hdQ N qh qs) N cs τ := ⟨⟨s1.1.1, s1.1.2.1, hc2, s1.1.2.2.2⟩, s1.2⟩
  refine Tm_oP (Zy_pp s2) ?_
  have e3 : τ.1 (fP b 3) = nI st := s2.2.2.2.1.1
  rw [e3, n_add1]
  have fc := fP_c b 3
  have zf := s2.2.2
  have s3 : Zy T n b u al σ tb.length N mk (a1 + n1) (a2 + n2) tb o q v mk w (st + 1) lo (hdQ N qh qs) N cs (uI τ (fP b 3) (nI (st + 1))) := Zy_g s2 (fun j hj => uI_o (by omega)) rfl (by rw [uI_o (by omega)]; exact s2.1.1.2.2.1.1) (Nat.le_refl _) (Nat.le_refl _) ⟨zf.1, ⟨uI_s, by omega⟩, by rw [uI_o (by omega)]; exact zf.2.2.1, by rw [uI_o (by omega)]; exact zf.2.2.2.1, zf.2.2.2.2⟩
  refine Tm_oP (Zy_pp s3) ?_
  have e03 : (uI τ (fP b 3) (nI (st + 1))).1 3703 = nI q := s3.1.1.1.2.2.2.2.2.2.1
  rw [e03]
  refine zt_emit (op := 0) s3 rfl rfl (by omega) (fun τ4 n3 n4 s4 xk4 => ?_)
  have s4' : Zy T n b u al σ tb.length N mk (a1 + n1 + n3) (a2 + n2 + n4) tb o q v mk w (st + 1) lo (hdQ N qh qs) N (cs ++ [em 0 (nI q)]) τ4 := s4
  have ls : (cs ++ [em 0 (nI q)]).length = cs.length + 1 := by rw [List.length_append]; rfl
  have q4 : QS T n b u al tb o q v mk 0 (N + cs.length + 1) τ4 := by have z := s4'.1.1; rw [ls] at z; exact z
  have hb4 : cdr b τ4 (N + cs.length) = em 0 (nI q) := by
    rw [s4'.2.1 cs.length (by omega)]
    exact gd_r (a := cs) (b := [em 0 (nI q)]) 0
  have s5 : Zy T n b u al σ tb.length N mk (a1 + n1 + n3) (a2 + n2 + n4) tb o q v mk w (st + 1) lo (hdQ N qh qs) (N + cs.length) [em 0 (nI q)] τ4 := ⟨⟨q4, s4'.1.2.1, s4'.1.2.2.1, Nat.le_refl _, by show N ≤ N + cs.length + 1; omega, Nat.le_refl _⟩, fun i hi => by
    have : i = 0 := by have hi' : i < 1 := hi; omega
    subst this
    exact hb4, s4'.2.2⟩
  refine Tm_d ?_
  have bdb : BdB n o q v mk (N + cs.length) w tb.length := ⟨by omega, by omega, by omega, by omega⟩
  refine zt_callM (C := True) s5 (Nat.le_add_right _ _) (run (N + cs.length) _ τ4 _ q4 s4'.2.2 hb4 (CxS_k cx s4'.1.2.1) bdb rfl) ?_
  cases z1 with
  | none => exact Or.inl ⟨rfl, h0 rfl⟩
  | some r =>
    refine Or.inr ⟨r, rfl, trivial, fun τ6 ret6 n5 n6 hr zk6 zks hc6 => ?_⟩
    obtain ⟨c2, q2, ns2, t1, t2, t3, t4, t5, ⟨t6, t6', t6''⟩, t7, t8⟩ := hr
    have hm1 := hm r rfl
    have jj := JsT_s q2 qs r5 t5
    have ll2 : (cs ++ c2).length = cs.length + c2.length := List.length_append
    have t4' := Stm_w t4 (Bd' := bdO o v0) (by unfold bdO; omega) (Nat.le_refl _)
    have ty := Stm_q (Stm_seq r4 t4') (qs' := shQ cs.length q2 ++ qs) (fun i => by rw [List.mem_append, List.mem_append]; exact ⟨fun z => z.symm, fun z => z.symm⟩) (JsT_p _ jj.1)
    refine hn r rfl τ6 _ _ _ ⟨cs ++ c2, shQ cs.length q2 ++ qs, ns + ns2, ⟨⟨by rw [ll2, ← Nat.add_assoc]; exact t1, zks, hc6, Nat.le_refl _, by rw [ll2]; omega, Nat.le_refl _⟩, fun i hi => ?_, by rw [jj.2]; exact t3⟩, ty, jj.1, ⟨by rw [ll2]; omega, by omega, by rw [List.length_append, shQ_l, Nat.add_comm q2.length]; exact lqN_a r6'' t6''⟩, ⟨by omega, by omega⟩, by omega⟩ (by rw [l1, n_add1]; rfl)
    by_cases c : i < cs.length
    · rw [(zk6.2.2.2.2.2.1 (N + i) (by omega)).1, s4'.2.1 i (by omega), gd_l c, gd_l c]
    · have z := t2 (i - cs.length) (by omega)
      have y := gd_r (a := cs) (b := c2) (i - cs.length)
      rw [show N + cs.length + (i - cs.length) = N + i by omega] at z
      rw [show cs.length + (i - cs.length) = i by omega] at y
      rw [z, y]
theorem c_blk : ∀ f, (∀ g, g < f → P1k T n b u al MD g) → PLk T n b u al MD f := by
  intro f
  induction f with
  | zero => intro _ E lp o q v pe i l bt s x _ _ _ _ hG; simp only [GS] at hG; cases hG
  | succ f ih =>
    intro hp E lp o q v pe i l bt s x hq hv hs hB1 hG
    have hG0 := hG
    simp only [GS] at hG
    by_cases c : isBE (tkK T n q)
    · rw [if_pos c] at hG
      refine ⟨some (q, v, s.1), Or.inr ⟨_, rfl, Or.inr ⟨_, (Option.some.inj hG).symm, rfl, rfl, rfl⟩⟩, fun d gl Pc Vm tb mk N w q0 v0 st0 it a1 a2 lo qh σ τ L hs' cx bd hd l1 => ?_⟩
      exact c_blEnd hs' (fun z => by rcases z with y | y | y | y | y | y <;> omega) l1
    rw [if_neg c] at hG
    by_cases hst : isSt (tkK T n q)
    case neg =>
      refine ⟨some (q, v, s.1), Or.inr ⟨_, rfl, Or.inl ⟨?_, c⟩⟩, fun d gl Pc Vm tb mk N w q0 v0 st0 it a1 a2 lo qh σ τ L hs' cx bd hd l1 => c_blEnd hs' hst l1⟩
      cases f with
      | zero => simp only [GS] at hG; cases hG
      | succ f =>
        simp only [GS] at hG
        rw [if_pos (Or.inl hst)] at hG
        exact (Option.some.inj hG).symm
    cases f with
    | zero => simp only [GS] at hG; cases hG
    | succ f =>
      by_cases c2 : (isOp (tkK T n q) ∧ o = 20) ∨ s.1 = 400
      · have hx : x = none := by
          simp only [GS] at hG
          rw [if_pos (Or.inr c2)] at hG
          exact (Option.some.inj hG).symm
        refine ⟨none, Or.inl ⟨rfl, hx⟩, fun d gl Pc Vm tb mk N w q0 v0 st0 it a1 a2 lo qh σ τ L hs' cx bd hd l1 => c_blBad hs' cx hst ?_ l1⟩
        rcases c2 with c2 | c2
        · exact Or.inl c2
        · exact Or.inr (Or.inl c2)
      have cn : ¬ (¬ isSt (tkK T n q) ∨ (isOp (tkK T n q) ∧ o = 20) ∨ s.1 = 400) := fun z => by
        rcases z with z | z
        · exact z hst
        · exact c2 z
      have hG1 : hb (hb (gXs T n f MD E lp o q v bt (sMo s)) (fun r => some (some (r.1, r.2.1, s.1, r.2.2.2.1, bSet r.2.2.2.2.1 8 r.2.2.2.1 (nI s.1), sPl r.2.2.2.2.2 s.1 (nI q))))) (fun r => GS T n MD (f + 1) 0 E lp o r.1 r.2.1 pe (fst2 i r.2.2.2.1) r.2.2.2.1 (bLnk i l r.2.2.2.1 r.2.2.2.2.1) (sUp r.2.2.2.2.2 r.2.2.1 pe)) = some x := by
        have z : hb (GS T n MD (f + 1) 1 E lp o q v 0 0 0 bt s) (fun r => GS T n MD (f + 1) 0 E lp o r.1 r.2.1 pe (fst2 i r.2.2.2.1) r.2.2.2.1 (bLnk i l r.2.2.2.1 r.2.2.2.2.1) (sUp r.2.2.2.2.2 r.2.2.1 pe)) = some x := hG
        have e : GS T n MD (f + 1) 1 E lp o q v 0 0 0 bt s = hb (gXs T n f MD E lp o q v bt (sMo s)) (fun r => some (some (r.1, r.2.1, s.1, r.2.2.2.1, bSet r.2.2.2.2.1 8 r.2.2.2.1 (nI s.1), sPl r.2.2.2.2.2 s.1 (nI q)))) := by
          simp only [GS]
          rw [if_neg cn]
          rfl
        rw [e] at z
        exact z
      have gz : ∃ y, gXs T n f MD E lp o q v bt (sMo s) = some y := by
        rcases hb_any hG1 with ⟨y1, _⟩ | ⟨_, y1, _⟩
        · rcases hb_any y1 with ⟨y2, _⟩ | ⟨_, y2, _⟩
          · exact ⟨_, y2⟩
          · exact ⟨_, y2⟩
        · rcases hb_any y1 with ⟨y2, _⟩ | ⟨_, y2, _⟩
          · exact ⟨_, y2⟩
          · exact ⟨_, y2⟩
      obtain ⟨y, hy⟩ := gz
      have s4 : (sMo s).1 ≤ 400 := by show s.1 + 1 ≤ 400; omega
      by_cases cb : BadG (tkK T n q) o lp E
      · have hy0 : y = none := by
          have kr : 49 ≤ tkK T n q ∧ tkK T n q ≤ 51 := by
            rcases cb with z | z | z
            · exact absurd (Or.inl z) c2
            · omega
            · omega
          have hy2 := hy
          unfold gXs at hy2
          rw [if_neg (by omega), if_neg (by omega), if_neg (by omega), if_neg (by omega), if_neg (by omega)] at hy2
          obtain ⟨x3, hx3, hl3⟩ := lb_S hy2
          rcases gSm_0 hx3 ⟨kr.1, by omega⟩ with ⟨_, e⟩ | ⟨nb, _⟩
          · rw [e] at hl3; exact (Option.some.inj hl3).symm
          · exfalso
            rcases cb with z | z | z
            · exact c2 (Or.inl z)
            · exact nb (Or.inl z)
            · exact nb (Or.inr ⟨z.1, Or.inl z.2⟩)
        rw [hy, hy0] at hG1
        refine ⟨none, Or.inl ⟨rfl, (Option.some.inj hG1).symm⟩, fun d gl Pc Vm tb mk N w q0 v0 st0 it a1 a2 lo qh σ τ L hs' cx bd hd l1 => c_blBad hs' cx hst ?_ l1⟩
        rcases cb with z | z | z
        · exact Or.inl z
        · exact Or.inr (Or.inr (Or.inl ⟨z.1, cx.2.2.2.1.1 z.2⟩))
        · exact Or.inr (Or.inr (Or.inr ⟨z.1, by rw [← cx.2.1]; exact z.2⟩))
      have nbad : ∀ {gl : Nat × (Nat → Nat → Prop)} {Pc : Nat → Nat → Prop} {Vm : Nat → Prop} {tb : List Ent} {lo : Option Nat} {σ : CS}, CxS n E b u al gl Vm Pc MD tb lp lo σ → ¬ Bad (tkK T n q) o s.1 u lo := fun cx z => by
        rcases z with z | z | z | z
        · exact c2 (Or.inl z)
        · exact c2 (Or.inr z)
        · exact cb (Or.inr (Or.inl ⟨z.1, cx.2.2.2.1.2 z.2⟩))
        · exact cb (Or.inr (Or.inr ⟨z.1, by rw [cx.2.1]; exact z.2⟩))
      obtain ⟨z1, sz, run⟩ := hp f (by omega) E lp o q v bt (sMo s) y hq hv s4 hB1 hst cb hy
      rcases sz with ⟨e1, e2⟩ | ⟨r, nd, bb, ss, e1, e2, e3⟩
      · rw [hy, e2] at hG1
        refine ⟨none, Or.inl ⟨rfl, (Option.some.inj hG1).symm⟩, fun d gl Pc Vm tb mk N w q0 v0 st0 it a1 a2 lo qh σ τ L hs' cx bd hd l1 => ?_⟩
        refine c_blStep (z1 := z1) hs' cx bd hst (nbad cx) l1 (fun N qh σ L h1 h2 h3 h4 h5 h6 => run d gl Pc Vm tb mk N w lo qh σ L h1 h2 h3 h4 h5 hd h6) (fun _ => rfl) (fun r z => ?_) (fun r z => ?_)
        · rw [e1] at z; cases z
        · rw [e1] at z; cases z
      · rw [hy, e2] at hG1
        have hsm := gXs_mo hq hv s4 hB1 (hy.trans (congrArg some e2))
        have hsm' : s.1 + 1 ≤ r.2.2 := by rw [← e3]; exact hsm
        have e4 : GS T n MD (f + 1) 1 E lp o q v 0 0 0 bt s = some (some (r.1, r.2.1, s.1, nd, bSet bb 8 nd (nI s.1), sPl ss s.1 (nI q))) := by
          simp only [GS]
          rw [if_neg cn]
          have z : hb (gXs T n f MD E lp o q v bt (sMo s)) (fun r => some (some (r.1, r.2.1, s.1, r.2.2.2.1, bSet r.2.2.2.2.1 8 r.2.2.2.1 (nI s.1), sPl r.2.2.2.2.2 s.1 (nI q)))) = some (some (r.1, r.2.1, s.1, nd, bSet bb 8 nd (nI s.1), sPl ss s.1 (nI q))) := by rw [hy, e2]; rfl
          exact z
        obtain ⟨mo, _⟩ := gs_mo (f + 1) 1 E lp o q v 0 0 0 bt s _ 1 (by decide) hq hv hs e4 (Nat.le_refl _) hB1 (fun z => absurd z (by decide)) (fun z => absurd z (by decide))
        obtain ⟨m1, m2, m3, m4, m5, m6, m7, m8, m9, m10⟩ := mo
        have hG2 : GS T n MD (f + 1) 0 E lp o r.1 r.2.1 pe (fst2 i nd) nd (bLnk i l nd (bSet bb 8 nd (nI s.1))) (sUp (sPl ss s.1 (nI q)) s.1 pe) = some x := hG1
        have m5' : bt.1 ≤ bb.1 := m5
        have m10' : ss.1 ≤ 400 := m10
        obtain ⟨z, bz, rn⟩ := ih (fun g hg => hp g (by omega)) E lp o r.1 r.2.1 pe (fst2 i nd) nd (bLnk i l nd (bSet bb 8 nd (nI s.1))) (sUp (sPl ss s.1 (nI q)) s.1 pe) x m2 m4 m10' (by rw [bLnk_1]; show 1 ≤ bb.1; omega) hG2
        refine ⟨z, bz, fun d gl Pc Vm tb mk N w q0 v0 st0 it a1 a2 lo qh σ τ L hs' cx bd hd l1 => ?_⟩
        refine c_blStep (z1 := z1) hs' cx bd hst (nbad cx) l1 (fun N qh σ L h1 h2 h3 h4 h5 h6 => run d gl Pc Vm tb mk N w lo qh σ L h1 h2 h3 h4 h5 hd h6) (fun z => ?_) (fun r' z => ?_) (fun r' z τ' L' n1 n2 hs2 l2 => ?_)
        · rw [e1] at z; cases z
        · rw [e1] at z; cases z; exact hsm'
        · rw [e1] at z; cases z
          have er : r = (r.1, r.2.1, ss.1) := by rw [e3]
          rw [er] at hs2
          exact rn d gl Pc Vm tb mk N w q0 v0 st0 (it + 1) n1 n2 lo qh σ τ' L' hs2 cx bd hd l2
theorem PBk_of (h : PLk T n b u al MD f) : PBk T n b u al MD f := by
  intro E lp o q v pe i l bt s x hq hv hs hB1 hG
  obtain ⟨z, bz, run⟩ := h E lp o q v pe i l bt s x hq hv hs hB1 hG
  refine ⟨z, bz, fun d gl Pc Vm tb mk N w lo qh σ L h zf cx bd hd => ?_⟩
  obtain ⟨d1, ed⟩ : ∃ d1, d = d1 + 1 := ⟨d - 1, by omega⟩
  subst ed
  have s0 := Zy_0 h zf
  refine Tm_suc (fun k => bk_0 k _ _ _) ?_
  exact run d1 gl Pc Vm tb mk N w q v s.1 0 0 0 lo qh σ σ _ ⟨[], [], 0, s0, Stm_nil, trivial, ⟨Nat.zero_le _, by show 0 + s.1 ≤ s.1; omega, Nat.zero_le _⟩, ⟨Nat.le_refl _, Nat.le_refl _⟩, Nat.zero_le _⟩ cx bd (by omega) rfl
/-- blocks of any kind, once fors are read -/
theorem blk_all (hf : ∀ f, (∀ g, g ≤ f → PBk T n b u al MD g) → PSk T n b u al MD (f + 1) 5 1) : ∀ f, PBk T n b u al MD f := by
  intro f
  induction f using Nat.strongRecOn with
  | ind f ih =>
    refine PBk_of (c_blk f (fun g hg => ?_))
    cases g with
    | zero =>
      have v0 : ∀ nt m, PSk T n b u al MD 0 nt m := fun nt m E lp o q v pe i l bt s y _ _ _ _ _ _ hG => by simp only [GS] at hG; cases hG
      exact c_stmt (v0 2 2) (v0 4 5) (v0 5 1)
    | succ g => exact c_stmt (c_if (fun g' hg' => ih g' (by omega))) (c_while (ih g (by omega))) (hf g (fun g' hg' => ih g' (by omega)))
end CYA
