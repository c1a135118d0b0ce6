/-! The class: procs are read. -/
section DYK
variable {σ σ' σ0 σ2 τ τ' τ0 τp : CS} {L L2 : LV} {b pr : Bool} {T : Nat → Int32} {n q q' q0 q1 u al o v v0 v' mk mk' p sz nc a1 a2 m f w st r0 vg vg' N N0 N1 M j W np pc op b0 qp vp K : Nat} {y qh x : Int32} {l l' cs cs' : List Int32} {tb tb' A B : List Ent} {E E' E0 E1 Ep : En} {bt bt0 : BT} {lo : Option Nat} {md : Nat → Nat} {MD : Nat → Nat → Nat} {c : Ct} {g : PRG} {s : SB} {F : Nat → Int32} {X : Option PRG} {S : PRG → Int32 → CS → Prop}
/-- within the unit: its rows but for slots stay -/
def PvR (b : Bool) (u : Nat) (τp τ : CS) : Prop := UnK b u τp τ ∧ (τ.2.2.1 (pR13 b) u = τp.2.2.1 (pR13 b) u ∧ τ.2.2.1 (pR14 b) u = τp.2.2.1 (pR14 b) u ∧ τ.2.2.1 (pR15 b) u = τp.2.2.1 (pR15 b) u) ∧ τ.1 (fP b 12) = τp.1 (fP b 12)
theorem PvR_r (b : Bool) (u : Nat) (τ : CS) : PvR b u τ τ := ⟨fun _ _ => ⟨⟨rfl, rfl⟩, ⟨rfl, rfl⟩, rfl⟩, ⟨rfl, rfl, rfl⟩, rfl⟩
theorem PvR_Z (h : PvR b u τp τ) (z : ZK b u p sz mk τ τ') : PvR b u τp τ' := by
  have e := ZK_13 z
  exact ⟨UnK_t h.1 (UnK_Z z), ⟨by rw [e.1]; exact h.2.1.1, by rw [e.2.1]; exact h.2.1.2.1, by rw [e.2.2]; exact h.2.1.2.2⟩, (ZK_12 z).trans h.2.2⟩
/-- what a proc's body stands on -/
def PrQ (T : Nat → Int32) (n : Nat) (b : Bool) (nc N N0 W st : Nat) (E1 E0 : En) (vg v0 M np : Nat) (md : Nat → Nat) (MD : Nat → Nat → Nat) (Ep : En) (qp vp : Nat) (σ0 τp : CS) (c : Ct) : Prop := (PmS T n b nc 2 0 N st 0 E1 vg σ0 M Ep np md qp vp τp ∧ PgT E0 vg nc N0 W c ∧ UTb b nc c MD σ0) ∧ (tcN c = N ∧ N0 ≤ N ∧ ∀ i, N0 ≤ i → i < N → cdr b σ0 i = tcC c i) ∧ nc < 40 ∧ ((σ0.2.2.1 (pR16 b) 0 = nI v0 ∧ v0 ≤ 60) ∧ σ0.2.2.1 (pR18 b) 0 = nI v0 ∧ vg = v0 ∧ σ0.2.2.1 (pR18 b) 41 = 0) ∧ (∀ i, i < nc → E1.2.2.2.2.2.2 i = E0.2.2.2.2.2.2 i) ∧ (∀ x, x ∈ E1.1 → x ∈ E0.1 ∨ (x.2.2.2 = nc ∧ (x.2.2.1 = 2 → False) ∧ (x.2.2.1 = 3 → ¬ False))) ∧ (E1.2.2.2.2.1 = true ∧ E1.2.2.2.2.2.1 = true) ∧ st ≤ 400 ∧ n ≤ 10240
/-- its body: block end ; -/
theorem c_pr4 {MD' : Nat → Nat → Nat} (hMD : MD' = fun p => if p = nc then md else MD p) (pq : PrQ T n b nc N N0 W s.1 E1 E0 vg v0 M np md MD Ep qp vp σ0 τp c) (h : QS T n b (nc + 1) 2 (tbE (nc + 1) E) 0 q v 0 0 N τ) (zf : ZF b (nc + 1) v s.1 none 0 τ) (de : DE E (nc + 1) vg (nc + 1) v) (pv : PvR b (nc + 1) τp τ) (eE : E.1 = Ep.1 ∧ E.2.2 = Ep.2.2) (hnp : np ≤ v) (dy : Dy b σ0 N a1 a2 τ) (l1 : L.1 1 = nI E1.1.length) (hb1 : 1 ≤ bt.1) (bd : 2 * N + 7 * (n - q) + 110 ≤ K) (hq : qp < q) (hqp : 2 * N + 7 * (n - qp) + 110 ≤ K) (hK : K ≤ 73728) (hG : pb (GS T n MD' (fu n) 0 E 0 0 q v (-1) 0 0 bt s) (fun t => pW T n 38 t.1 (fun q2 => pW T n 13 q2 (fun q3 => some (some (q3, (E.1, [], [], 0, true, true, E.2.2.2.2.2.2), MD', nc + 1, pc + 1, v0, bRes bt0.2.2.2.2 t.2.2.2.2.1, t.2.2.2.2.2, upF F nc (Jvm.Pilot.CSetHouseLaw_law_r7351_1de140.hd t.2.2.2.1, t.2.1) t.2.2.2.2.1.2.2.2.2))))) = some X) : Tm (fun k => f_X5_procedure k 4 L τ) (DPo b N X (fun g _ τ' => DSt T n b N0 W K g τ') σ0 a1 a2) := by
  obtain ⟨⟨pm, pg, ut⟩, ⟨eN, hN0, hcd⟩, n40, ⟨⟨h16, h16'⟩, h18, hvg, h41⟩, eP, hx, ⟨f1, f2⟩, hs, n10⟩ := pq
  have pm0 := pm
  obtain ⟨⟨p1, p2, p3⟩, ⟨p4, p4'⟩, ⟨p5, p6, p7, p8, p9⟩, p10, ⟨g1, ⟨g2, g3, g4⟩, g5, g6⟩⟩ := pm
  have qn : q ≤ n := h.1.2.2.2.1
  have v60 : v ≤ 60 := de.2.1.2.2.2
  have rk : RK = 40000 := rfl
  have tl : (tbE (nc + 1) E).length = E.1.length + v := by rw [tbE_l, de.1.2.2 (by omega)]
  have el := de.2.1
  obtain ⟨⟨ti, pgu, hD⟩, ut2⟩ := Un_in (isF := False) (ρ := 2) (v' := v) (τ' := τ) pm0 pg ut eN hN0 n40 ⟨hnp, v60⟩ (by omega) (fun _ => Nat.le_refl _) eP hx E ⟨eE.1, by rw [eE.2]⟩ pv.1 pv.2.1 zf.1
  rw [← hMD] at ut2
  have e1 : E.2.2.2.2.1 = true := by rw [eE.2, g3]; exact f1
  have e2 : E.2.2.2.2.2.1 = true := by rw [eE.2, g4]; exact f2
  have sx := StX_P de pgu ut2 (by omega) e1 e2 n10
  have cx : CxS n E b (nc + 1) 2 (glD E vg) (VmD v) (PcD E) MD' (tbE (nc + 1) E) 0 none τ := ⟨sx, de.1.1, by omega, ⟨fun _ => rfl, fun _ => rfl⟩, fun p e => by cases e⟩
  have bdb : BdB n 0 q v 0 N v (tbE (nc + 1) E).length := ⟨by omega, by omega, by omega, by omega⟩
  have gz : ∃ x, GS T n MD' (fu n) 0 E 0 0 q v (-1) 0 0 bt s = some x := by
    rcases pb_any hG with ⟨z, _⟩ | ⟨t, z, _⟩
    · exact ⟨_, z⟩
    · exact ⟨_, z⟩
  obtain ⟨xs, hxs⟩ := gz
  obtain ⟨z, bem, blk⟩ := PBk_all (T := T) (n := n) (b := b) (u := nc + 1) (al := 2) (MD := MD') (fu n) E 0 0 q v (-1) 0 0 bt s xs qn v60 hs hb1 hxs
  have t0 := blk 120 (glD E vg) (PcD E) (VmD v) (tbE (nc + 1) E) 0 N v none 0 τ lZ h zf cx bdb (by omega)
  refine Tm_suc (fun k => by rw [f_X5_procedure]) ?_
  rw [hxs] at hG
  rcases bem with ⟨z1, z2⟩ | ⟨r, z1, z2⟩
  · rw [z2] at hG
    rw [(Option.some.inj hG).symm]
    rw [z1] at t0
    exact dt_callZ (z := none) dy (Nat.le_refl _) t0 (Or.inl ⟨rfl, rfl⟩)
  rw [z1] at t0
  refine dt_callZ (z := some r) dy (Nat.le_refl _) t0 (Or.inr ⟨_, rfl, fun τ1 ret1 n1 n2 r1 zk1 dy1 => ?_⟩)
  obtain ⟨cs, qs, ns, q1, cd1, zf1, sm, js, ⟨ln, lns, lqs⟩, lq, lv⟩ := r1
  have qs0 : qs = [] := List.eq_nil_of_length_eq_zero (Nat.le_zero.1 lqs)
  rw [qs0] at sm zf1 js
  have r1n : r.1 ≤ n := q1.1.2.2.2.1
  rcases z2 with ⟨z3, z4⟩ | ⟨t, z3, z4, z5, z6⟩
  · rw [z3] at hG
    rw [(Option.some.inj hG).symm]
    exact dt_callQ (z := none) dy1 (Nat.le_add_right _ _) (c_expectQ (kk := 38) q1 (by decide) rfl (Or.inl ⟨fun e => z4 (Or.inr (Or.inl e.1)), rfl⟩)) (Or.inl ⟨rfl, rfl⟩)
  rw [z3] at hG
  have hG' : pW T n 38 t.1 (fun q2 => pW T n 13 q2 (fun q3 => some (some (q3, (E.1, [], [], 0, true, true, E.2.2.2.2.2.2), MD', nc + 1, pc + 1, v0, bRes bt0.2.2.2.2 t.2.2.2.2.1, t.2.2.2.2.2, upF F nc (Jvm.Pilot.CSetHouseLaw_law_r7351_1de140.hd t.2.2.2.1, t.2.1) t.2.2.2.2.1.2.2.2.2)))) = some X := hG
  rw [z4] at hG'
  have gmo := gs_mo (fu n) 0 E 0 0 q v (-1) 0 0 bt s t 1 (by decide) qn v60 hs (by rw [hxs, z3]) (Nat.le_refl _) hb1 (fun _ e => absurd rfl e) (fun e => absurd e (by decide))
  have tb2 := tkN_b T n r.1 r1n
  rcases pW_any hG' with ⟨w1, w2⟩ | ⟨w1, w2⟩
  · rw [w2]
    exact dt_callQ (z := none) dy1 (Nat.le_add_right _ _) (c_expectQ (kk := 38) q1 (by decide) rfl (Or.inl ⟨w1, rfl⟩)) (Or.inl ⟨rfl, rfl⟩)
  refine dt_callQ (z := some _) dy1 (Nat.le_add_right _ _) (c_expectQ (kk := 38) q1 (by decide) rfl (Or.inr ⟨w1, rfl⟩)) (Or.inr ⟨_, rfl, fun τ2 ret2 n3 n4 q2 xk2 dy2 => ?_⟩)
  have gq2 := tb2.2.2.2 (by rw [w1.1]; decide)
  have tb3 := tkN_b T n (tkN T n r.1) tb2.2.1
  have lN : N + cs.length + 3 ≤ 36864 := by omega
  refine dt_callQ (z := some ()) dy2 (Nat.le_add_right _ _) (c_pushQ (L := lI lZ 1 (-2147483648)) q2 lit_om (by omega)) (Or.inr ⟨_, rfl, fun τ3 ret3 n5 n6 r3 xk3 dy3 => ?_⟩)
  obtain ⟨ps, ps2, q3, cd3, eps⟩ := r3
  refine Tm_oP q3.2.2.2.2.1.1 ?_
  refine dt_callQ (z := some ()) dy3 (by omega) (c_emitQ (oq := 20) q3 rfl rfl (by omega)) (Or.inr ⟨_, rfl, fun τ4 ret4 n7 n8 r4 xk4 dy4 => ?_⟩)
  obtain ⟨q4, cd4⟩ := r4
  rcases pW_any w2 with ⟨w3, w4⟩ | ⟨w3, w4⟩
  · rw [w4]
    exact dt_callQ (z := none) dy4 (by omega) (c_expectQ (kk := 13) q4 (by decide) rfl (Or.inl ⟨w3, rfl⟩)) (Or.inl ⟨rfl, rfl⟩)
  have gq4 := tb3.2.2.2 (by rw [w3.1]; decide)
  rw [(Option.some.inj w4).symm]
  refine dt_callQ (z := some _) dy4 (by omega) (c_expectQ (kk := 13) q4 (by decide) rfl (Or.inr ⟨w3, rfl⟩)) (Or.inr ⟨_, rfl, fun τ5 ret5 n9 n10' q5 xk5 dy5 => ?_⟩)
  have zk2 := ZK_t zk1 (ZK_of xk2) (Nat.le_refl _) (Nat.le_add_right _ _) (Nat.le_refl _)
  have zk3 := ZK_t zk2 (ZK_of xk3) (Nat.le_refl _) (Nat.le_add_right _ _) (Nat.le_refl _)
  have zk4 := ZK_t zk3 (ZK_of xk4) (Nat.le_refl _) (by omega) (Nat.le_refl _)
  have zk5 := ZK_t zk4 (ZK_of xk5) (Nat.le_refl _) (by omega) (Nat.le_refl _)
  have pv5 := PvR_Z pv zk5
  have uk5 : UnK b (nc + 1) σ0 τ5 := UnK_t p6 pv5.1
  have e16 : τ5.2.2.1 (pR16 b) 0 = nI v0 := ((uk5 0 (by omega)).2.1.2).trans h16
  have q5' : QS T n b (nc + 1) 2 (E.1.map gEn ++ E.2.1.reverse.map (lEn (nc + 1))) 0 (tkN T n (tkN T n r.1)) r.2.1 0 0 (N + cs.length + 2 + 1) τ5 := q5
  refine Tm_op (cl_unit q5' e16 h16' (by rw [List.length_map]; show L.1 1 = _; rw [l1, eE.1, g1])) (fun r6 z6' => ?_)
  obtain ⟨q6, dk6, e62, e61⟩ := z6'
  have ph6 := Ph_s (σ := τ5) (σ' := r6.2) (by rw [e62])
  have dy6 : Dy b σ0 N (a1 + n1 + n3 + n5 + n7 + n9) (a2 + n2 + n4 + n6 + n8 + n10') r6.2 := ⟨DK_t dy5.1 dk6 (by omega), by have := dy5.2.1; omega, by have := dy5.2.2; omega⟩
  refine Tm_some (Dfin dy6 ?_)
  have j3 : ¬ (fP b 3 = 4003 ∨ fP b 3 = 4004 ∨ fP b 3 = fP b 11) := by cases b <;> decide
  have j12 : ¬ (fP b 12 = 4003 ∨ fP b 12 = 4004 ∨ fP b 12 = fP b 11) := by cases b <;> decide
  have j8 : ¬ (4008 = 4003 ∨ 4008 = 4004 ∨ 4008 = fP b 11) := by cases b <;> decide
  have j9 : ¬ (4009 = 4003 ∨ 4009 = 4004 ∨ 4009 = fP b 11) := by cases b <;> decide
  have cdf : ∀ i, cdr b r6.2 i = cdr b τ5 i := fun i => by
    show r6.2.2.2.1 (r6.2.2.2.2.2.2.1.2.2.2.2 b |> pR0) i = _
    rw [e62]
  have cdA : ∀ i, i < cs.length → cdr b r6.2 (N + i) = cs.getD i 0 := fun i hi => by
    rw [cdf, (xk5.2.2.2.2.2.1 (N + i) (by omega)).1, (xk4.2.2.2.2.2.1 (N + i) (by omega)).1, (xk3.2.2.2.2.2.1 (N + i) (by omega)).1, (xk2.2.2.2.2.2.1 (N + i) (by omega)).1]
    exact cd1 i hi
  have cdB : ∀ i, i < 2 → cdr b r6.2 (N + cs.length + i) = ps.getD i 0 := fun i hi => by
    rw [cdf, (xk5.2.2.2.2.2.1 (N + cs.length + i) (by omega)).1, (xk4.2.2.2.2.2.1 (N + cs.length + i) (by omega)).1]
    exact cd3 i hi
  have cdC : cdr b r6.2 (N + cs.length + 2) = em 20 0 := by
    rw [cdf, (xk5.2.2.2.2.2.1 (N + cs.length + 2) (by omega)).1]
    exact cd4
  have eNu : tcN (unB c (nc + 1) np v False 2) = N := eN
  have eFu : tcF (unB c (nc + 1) np v False 2) (nc + 1) = v := if_pos rfl
  have eKu : ¬ tcK (unB c (nc + 1) np v False 2) (nc + 1) := by
    show ¬ (if nc + 1 = nc + 1 then False else _)
    rw [if_pos rfl]
    exact id
  have hC1 : ∀ i, i < N → cdX N0 c b r6.2 i = tcC (unB c (nc + 1) np v False 2) i := cdX_1 hN0 hcd dy6.1
  have st4 := zf1.2.1.2
  obtain ⟨D, pgt⟩ := Un_p (C := cdX N0 c b r6.2) (cs := cs) (F := v) (Bd := bdO 0 v) (ns := ns) ti pgu (by omega) ⟨by omega, Nat.le_refl _⟩ eKu eFu v60 (by rw [eNu]; exact hD) (by rw [eNu]; exact hN0) (by rw [eNu]; exact sm) (by unfold bdO; omega) (by omega) (by rw [eNu]; omega) (by rw [eNu]; exact hC1) (by rw [eNu]; exact fun i hi => by rw [cdX_2 (by omega)]; exact cdA i hi) (by
    rw [eNu, cdX_2 (by omega), cdX_2 (by omega), cdX_2 (by omega)]
    have y0 := cdB 0 (by decide)
    have y1 := cdB 1 (by decide)
    rw [eps] at y0 y1
    exact ⟨y0, y1, cdC⟩)
  rw [eNu] at pgt
  have zf5 : ZF b (nc + 1) v r.2.2 none 0 τ5 := ZF_k (ZF_k (ZF_k (ZF_k zf1 xk2) xk3) xk4) xk5
  have ne0 : ¬ 0 = nc + 1 := fun z => Nat.noConfusion z
  have e18 : τ5.2.2.1 (pR18 b) 0 = nI v0 := ((uk5 0 ne0).2.2).trans h18
  have zf6 : ZF b 0 v0 t.2.2.2.2.2.1 none 0 r6.2 := by
    rw [z6]
    refine ⟨by rw [e62]; exact e18, ⟨by rw [e61 _ j3]; exact zf5.2.1.1, st4⟩, by rw [e61 _ j8]; exact zf5.2.2.1, by rw [e61 _ j9]; exact zf5.2.2.2.1, ?_⟩
    show r6.2.2.2.2.2.1 42 = 64 ∨ r6.2.2.2.2.2.1 42 = 16384
    rw [e62]
    exact zf5.2.2.2.2
  have ut6 : UTb b (nc + 1) (mkc (unB c (nc + 1) np v False 2) (cdX N0 c b r6.2) (N + cs.length + 3) D) MD' r6.2 := by
    intro i hi
    rw [e62]
    have e13 := ZK_13 zk5
    obtain ⟨⟨y1, y2, y3⟩, y4⟩ := ut2 i hi
    refine ⟨⟨by rw [e13.1]; exact y1, by rw [e13.2.1]; exact y2, ?_⟩, fun j hj => by rw [e13.2.2]; exact y4 j hj⟩
    show τ5.2.2.1 (pR18 b) (i + 1) = nI (tcF (unB c (nc + 1) np v False 2) (i + 1))
    by_cases ei : i = nc
    · rw [ei, eFu]
      exact zf5.1
    · rw [(UnK_Z zk5 (i + 1) (fun z => ei (Nat.succ.inj z))).2.2]
      exact y3
  have hb9 : 1 ≤ t.2.2.2.2.1.1 := by
    have y := gmo.1
    unfold MoZ at y
    omega
  have bd9 : 2 * (N + cs.length + 3) + 7 * (n - tkN T n (tkN T n r.1)) + 110 ≤ K := by omega
  exact fn_end (c := mkc (unB c (nc + 1) np v False 2) (cdX N0 c b r6.2) (N + cs.length + 3) D) q6 zf6 de hvg h16' (by rw [e61 _ j12, pv5.2.2, p5]) ut6 pgt rfl (by show N0 ≤ N + cs.length + 3; omega) (fun i h1 _ => (cdX_2 h1).symm) bd9 hK (by rw [e62]; exact ((uk5 41 (by omega)).2.2).trans h41) hb9 (by rw [z6]; exact st4) n10
end DYK
