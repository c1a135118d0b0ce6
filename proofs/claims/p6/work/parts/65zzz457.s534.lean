/-! The class: procs are read: their variables; the whole. -/
section DYL
variable {σ σ' σ0 σ2 τ τ' τ0 τp : CS} {L L2 : LV} {b pr : Bool} {T : Nat → Int32} {n q q' q0 q1 u al o v v0 v' mk mk' p sz nc a1 a2 m f w st r0 vg vg' N N0 N1 M j W np pc b0 qp vp K : Nat} {y qh x : Int32} {l l' cs cs' : List Int32} {tb tb' A B : List Ent} {E E' E0 E1 Ep : En} {bt bt0 : BT} {lo : Option Nat} {md : Nat → Nat} {MD MD' : Nat → Nat → Nat} {c : Ct} {g : PRG} {s : SB} {F : Nat → Int32} {X : Option PRG} {S : PRG → Int32 → CS → Prop}
/-- what the grammar has behind a proc's variables -/
def gP4 (T : Nat → Int32) (n : Nat) (MD' : Nat → Nat → Nat) (nc pc v0 : Nat) (bt0 : BT) (F : Nat → Int32) (s : SB) (Ep : En) (r : DV) : Option (Option PRG) := pb (GS T n MD' (fu n) 0 r.2.1 0 0 r.1 r.2.2.1 (-1) 0 0 r.2.2.2 s) (fun t => pW T n 38 t.1 (fun q2 => pW T n 13 q2 (fun q3 => some (some (q3, (Ep.1, [], [], 0, true, true, Ep.2.2.2.2.2.2), MD', nc + 1, pc + 1, v0, bRes bt0.2.2.2.2 t.2.2.2.2.1, t.2.2.2.2.2, upF F nc (Jvm.Pilot.CSetHouseLaw_law_r7351_1de140.hd t.2.2.2.1, t.2.1) t.2.2.2.2.1.2.2.2.2)))))
/-- rows of variables of a proc -/
theorem pr_va (hMD : MD' = fun p => if p = nc then md else MD p) (pq : PrQ T n b nc N N0 W s.1 E1 E0 vg v0 M np md MD Ep qp vp σ0 τp c) (hqp : 2 * N + 7 * (n - qp) + 110 ≤ K) (hK : K ≤ 73728) : ∀ (f : Nat) (E : En) (q v : Nat) (bt : BT) (x : Option DV), GVs T n f E q v bt = some x → (x = none → X = none) → (∀ r, x = some r → gP4 T n MD' nc pc v0 bt0 F s Ep r = some X) → ∀ (a1 a2 : Nat) (L : LV) (τ : CS), QS T n b (nc + 1) 2 (tbE (nc + 1) E) 0 q v 0 0 N τ → ZF b (nc + 1) v s.1 none 0 τ → DE E (nc + 1) vg (nc + 1) v → PvR b (nc + 1) τp τ → (E.1 = Ep.1 ∧ E.2.2 = Ep.2.2) → np ≤ v → Dy b σ0 N a1 a2 τ → L.1 1 = nI E1.1.length → uN (L.1 2) ≤ v → 1 ≤ bt.1 → qp < q → Tm (fun k => f_X5_procedure k 3 L τ) (DPo b N X (fun g _ τ' => DSt T n b N0 W K g τ') σ0 a1 a2)
  | 0, E, q, v, bt, x, hG => by cases hG
  | f + 1, E, q, v, bt, x, hG => by
    intro hX hY a1 a2 L τ h zf de pv eE hnp dy l1 l2 hb1 hq
    rw [GVs] at hG
    have n40 := pq.2.2.1
    have qn : q ≤ n := h.1.2.2.2.1
    have v60 : v ≤ 60 := de.2.1.2.2.2
    refine Tm_suc (fun k => by rw [f_X5_procedure]) ?_
    refine Tm_no (by rw [u_ltn (by decide) (by omega)]; show ¬ 32768 < uN (L.1 2); omega) ?_
    by_cases k32 : tkK T n q = 32
    · rw [if_pos k32] at hG
      refine Tm_yes ((lx_k (kk := 32) h (by decide)).2 k32) ?_
      have g1 : Ep.1 = E1.1 := pq.1.1.2.2.2.2.1
      have er : (lI lZ 1 (L.1 1)).1 1 = nI (r0U (nc + 1) E) := by
        show L.1 1 = _
        rw [l1, show r0U (nc + 1) E = E.1.length from if_neg (by omega), eE.1, g1]
      have gz : ∃ y, pT T n q (fun q1 => GVr T n (fu n) E q1 v bt) = some y := by
        rcases pb_any hG with ⟨z, _⟩ | ⟨t, z, _⟩
        · exact ⟨_, z⟩
        · exact ⟨_, z⟩
      obtain ⟨y, hy⟩ := gz
      have t0 := c_vars (L := lI lZ 1 (L.1 1)) (by omega) h zf de er hy
      rw [hy] at hG
      cases y with
      | none =>
        rw [pb_nn] at hG
        rw [hX (Option.some.inj hG).symm]
        exact dt_callZ (z := none) dy (Nat.le_refl _) t0 (Or.inl ⟨rfl, rfl⟩)
      | some t =>
        rw [pb_ss] at hG
        have mo : t.2.2.2.1 = bt.1 := by
          rcases pT_any hy with ⟨_, z⟩ | ⟨_, z⟩
          · cases z
          · exact (gvr_mo _ _ _ _ _ _ (tkN_b T n q qn).2.1 v60 z).2.2.2.2.1
        refine dt_callZ (z := some t) dy (Nat.le_refl _) t0 (Or.inr ⟨_, rfl, fun τ1 ret1 n1 n2 r1 zk1 dy1 => ?_⟩)
        obtain ⟨vg1, r1, r2, r3, ⟨r4, r5⟩, r6, r7⟩ := r1
        have ev : vg1 = vg := r5 (by omega)
        rw [ev] at r3
        have l2' : uN ((lI L 2 (L.1 2 + 1)).1 2) ≤ t.2.2.1 := by
          show uN (L.1 2 + 1) ≤ _
          rw [u_inc (by omega)]
          omega
        exact pr_va hMD pq hqp hK f t.2.1 t.1 t.2.2.1 t.2.2.2 x hG hX hY _ _ (lI L 2 (L.1 2 + 1)) τ1 r1 r2 r3 (PvR_Z pv zk1) ⟨(r4.2.1 (by omega)).trans eE.1, r4.1.trans eE.2⟩ (by omega) dy1 l1 l2' (by omega) (by omega)
    · rw [if_neg k32] at hG
      refine Tm_no (fun z => k32 ((lx_k (kk := 32) h (by decide)).1 z)) ?_
      have hY' := hY _ (Option.some.inj hG).symm
      unfold gP4 at hY'
      have hY2 : pb (GS T n MD' (fu n) 0 E 0 0 q v (-1) 0 0 bt s) (fun t => pW T n 38 t.1 (fun q2 => pW T n 13 q2 (fun q3 => some (some (q3, (E.1, [], [], 0, true, true, E.2.2.2.2.2.2), MD', nc + 1, pc + 1, v0, bRes bt0.2.2.2.2 t.2.2.2.2.1, t.2.2.2.2.2, upF F nc (Jvm.Pilot.CSetHouseLaw_law_r7351_1de140.hd t.2.2.2.1, t.2.1) t.2.2.2.2.1.2.2.2.2))))) = some X := by
        rw [eE.1, eE.2]
        exact hY'
      exact c_pr4 hMD pq h zf de pv eE hnp dy l1 hb1 (by omega) hq hqp hK hY2
/-- behind the params of a proc: ) ; variables block end ; -/
theorem c_pr1 (hMD : MD' = fun p => if p = nc then md else MD p) (pq : PrQ T n b nc N N0 W s.1 E1 E0 vg v0 M np md MD E q v σ0 τ c) (k7 : tkK T n q = 7) (dy : Dy b σ0 N a1 a2 τ) (l1 : L.1 1 = nI E1.1.length) (hb1 : 1 ≤ bt.1) (bd : 2 * N + 7 * (n - q) + 110 ≤ K) (hK : K ≤ 73728) (hG : pT T n q (fun q5 => pb (gBod T n true MD' E q5 v bt s) (fun z => some (some (z.1, (E.1, [], [], 0, true, true, E.2.2.2.2.2.2), MD', nc + 1, pc + 1, v0, bRes bt0.2.2.2.2 z.2.2.1, z.2.2.2, upF F nc z.2.1 z.2.2.1.2.2.2.2)))) = some X) : Tm (fun k => f_X5_procedure k 1 L τ) (DPo b N X (fun g _ τ' => DSt T n b N0 W K g τ') σ0 a1 a2) := by
  have pm := pq.1.1
  obtain ⟨⟨h1, h2, h3⟩, ⟨h4, h4'⟩, ⟨h5, h6, h7, h8, h9⟩, h10, ⟨g1, ⟨g2, g3, g4⟩, g5, g6⟩⟩ := pm
  have qn : q ≤ n := h1.1.2.2.2.1
  have tb1 := tkN_b T n q qn
  have gq := tb1.2.2.2 (by rw [k7]; decide)
  have tb2 := tkN_b T n (tkN T n q) tb1.2.1
  refine Tm_suc (fun k => by rw [f_X5_procedure]) ?_
  rcases pT_any hG with ⟨w1, w2⟩ | ⟨w1, w2⟩
  · rw [w2]
    exact dt_callQ (z := none) dy (Nat.le_refl _) (c_closesQ (kk := 7) h1 (by decide) rfl (Or.inl ⟨fun e => e.2 w1, rfl⟩)) (Or.inl ⟨rfl, rfl⟩)
  refine dt_callQ (z := some _) dy (Nat.le_refl _) (c_closesQ (kk := 7) h1 (by decide) rfl (Or.inr ⟨⟨k7, w1⟩, rfl⟩)) (Or.inr ⟨_, rfl, fun τ1 ret1 n1 n2 q1 xk1 dy1 => ?_⟩)
  have w2' : pW T n 13 (tkN T n q) (fun q1 => pb (GVs T n (fu n) E q1 v bt) (gP4 T n MD' nc pc v0 bt0 F s E)) = some X := by
    rw [← w2]
    unfold gBod
    rw [if_pos rfl, pb_pW]
    refine congrArg (pW T n 13 (tkN T n q)) (funext fun q1 => ?_)
    rw [pb_pb]
    refine congrArg (pb _) (funext fun r => ?_)
    unfold gP4
    rw [pb_pb]
    refine congrArg (pb _) (funext fun t => ?_)
    rw [pb_pW]
    refine congrArg (pW T n 38 t.1) (funext fun q2 => ?_)
    rw [pb_pW]
    rfl
  rcases pW_any w2' with ⟨w3, w4⟩ | ⟨w3, w4⟩
  · rw [w4]
    exact dt_callQ (z := none) dy1 (Nat.le_refl _) (c_expectQ (kk := 13) q1 (by decide) rfl (Or.inl ⟨w3, rfl⟩)) (Or.inl ⟨rfl, rfl⟩)
  refine dt_callQ (z := some _) dy1 (Nat.le_refl _) (c_expectQ (kk := 13) q1 (by decide) rfl (Or.inr ⟨w3, rfl⟩)) (Or.inr ⟨_, rfl, fun τ2 ret2 n3 n4 q2 xk2 dy2 => ?_⟩)
  have zk2 := ZK_t (ZK_of xk1) (ZK_of xk2) (Nat.le_refl _) (Nat.le_refl _) (Nat.le_refl _)
  have gx : ∃ x, GVs T n (fu n) E (tkN T n (tkN T n q)) v bt = some x := by
    rcases pb_any w4 with ⟨z, _⟩ | ⟨t, z, _⟩
    · exact ⟨_, z⟩
    · exact ⟨_, z⟩
  obtain ⟨x, hx⟩ := gx
  rw [hx] at w4
  have tb3 := tb2.1
  refine pr_va (pc := pc) (bt0 := bt0) (F := F) hMD pq bd hK (fu n) E (tkN T n (tkN T n q)) v bt x hx (fun e => ?_) (fun r e => ?_) _ _ (lI L 2 0) τ2 q2 (ZF_k (ZF_k h2 xk1) xk2) h3 (PvR_Z (PvR_r b (nc + 1) τ) zk2) ⟨rfl, rfl⟩ (by omega) dy2 l1 (Nat.zero_le _) hb1 (by omega)
  · rw [e, pb_nn] at w4
    exact (Option.some.inj w4).symm
  · rw [e, pb_ss] at w4
    exact w4
/-- a proc -/
theorem c_procedure (h : DSt T n b N0 W K g σ) (hG : gCal T n true g.2.1 g.2.2.1 g.2.2.2.1 g.2.2.2.2.1 g.2.2.2.2.2.1 g.2.2.2.2.2.2.1 g.2.2.2.2.2.2.2.1 g.2.2.2.2.2.2.2.2 g.1 = some X) : Tm (fun k => f_X5_procedure k 0 L σ) (DPo b N0 X (fun h _ τ' => DSt T n b N0 W K h τ') σ 0 0) := by
  obtain ⟨c, N, vg, ⟨h1, h2, h3⟩, ⟨h4, h5, h6, h41⟩, ut, pg, ⟨eN, hN0, hcd⟩, ⟨bd1, bd2, bd3, bd4, hK⟩⟩ := h
  generalize g.2.1 = E at *
  generalize g.2.2.1 = MD at *
  generalize g.2.2.2.1 = nc at *
  generalize g.2.2.2.2.1 = pc at *
  generalize g.2.2.2.2.2.1 = v at *
  generalize g.2.2.2.2.2.2.1 = bt at *
  generalize g.2.2.2.2.2.2.2.1 = s at *
  generalize g.2.2.2.2.2.2.2.2 = F at *
  generalize g.1 = q at *
  refine Tm_mono (Q := DPo b N X (fun h _ τ' => DSt T n b N0 W K h τ') σ 0 0) ?_ (fun r z => DPo_w z hN0)
  have d0 := Dy_0 h1
  have evg : vg = v := (h3.1.2.1 rfl).2
  have j3 : fP b 3 ≠ fP b 4 := by cases b <;> decide
  have j12 : fP b 12 ≠ fP b 4 := by cases b <;> decide
  have j19 : fP b 19 ≠ fP b 4 := by cases b <;> decide
  have j8 : 4008 ≠ fP b 4 := by cases b <;> decide
  have j9 : 4009 ≠ fP b 4 := by cases b <;> decide
  have j43 : 4003 ≠ fP b 4 := by cases b <;> decide
  have j44 : 4004 ≠ fP b 4 := by cases b <;> decide
  have qn : q ≤ n := h1.1.2.2.2.1
  have t1 := tkN_b T n q qn
  have t2 := tkN_b T n _ t1.2.1
  have t3 := tkN_b T n _ t2.2.1
  refine Tm_suc (fun k => by rw [f_X5_procedure]) ?_
  rcases gCal_i hG with ⟨w1, w2⟩ | ⟨w1, w2⟩
  · rw [w2]
    exact dt_callD (z := none) d0 (Nat.le_refl _) (c_tellUnit (pr := true) (bt := bt) (L := lI lZ 1 2) h1 h2 h3 h6 rfl (Or.inl ⟨w1, rfl⟩)) (Or.inl ⟨rfl, rfl⟩)
  have n40 : nc < 40 := by have := h3.2.1.2.2.1; have := w1.2.1.2.2; omega
  refine dt_callD (z := some ()) d0 (Nat.le_refl _) (c_tellUnit (pr := true) (bt := bt) (L := lI lZ 1 2) h1 h2 h3 h6 rfl (Or.inr ⟨w1, rfl⟩)) (Or.inr ⟨_, rfl, fun τ1 ret1 n1 n2 r1 dk1 dy1 => ?_⟩)
  obtain ⟨r1, r2, r3, r4, r5, r6, r7, r8, r9⟩ := r1
  generalize hE1 : eC1 T n true E nc (tkN T n q) bt = E1 at *
  have E1f : E1.2.2.2.2.1 = true ∧ E1.2.2.2.2.2.1 = true := by rw [← hE1]; exact ⟨rfl, rfl⟩
  have E1p : ∀ i, i < nc → E1.2.2.2.2.2.2 i = E.2.2.2.2.2.2 i := fun i hi => by rw [← hE1]; exact if_neg (by omega)
  have E1n : E1.2.2.2.2.2.2 nc = 0 := by rw [← hE1]; exact if_pos rfl
  have E1x : ∀ x, x ∈ E1.1 → x ∈ E.1 ∨ (x.2.2.2 = nc ∧ (x.2.2.1 = 2 → False) ∧ (x.2.2.1 = 3 → ¬ False)) := fun x hx => by
    rw [← hE1] at hx
    rcases List.mem_append.1 (show x ∈ E.1 ++ [(tkS T n (tkN T n q), bt.2.1, (if true = true then 3 else 2), nc)] from hx) with z | z
    · exact Or.inl z
    · rw [List.mem_singleton.1 z]
      exact Or.inr ⟨rfl, fun e => absurd (show (3 : Nat) = 2 from e) (by decide), fun _ => id⟩
  refine Tm_oP r2.2.2.2.2.1.1 ?_
  -- one proc more
  generalize hx4 : τ1.1 (fP b 4) + 1 = x4
  show Tm (fun k => if (uI τ1 (fP b 4) x4).1 3702 = 11 then f_X5_procedure k 1 (lI L 1 ret1) (uI τ1 (fP b 4) x4) else ox (f_X5_modeAndParameter k 0 (lI lZ 1 ret1) (uI τ1 (fP b 4) x4)) (fun r4 => f_X5_procedure k 2 (lI (lI L 1 ret1) 2 0) r4.2.1)) _
  have q2 := QS_ww (σ' := uI τ1 (fP b 4) x4) (u' := nc + 1) (al' := 2) (v' := 0) (p' := 0) r2 (fun j hj => uI_o (fun e => hj (Or.inr (Or.inr (Or.inr (Or.inl e)))))) rfl (fun _ _ => rfl) rfl (by rw [uI_o j43]; exact r2.2.2.2.2.1.2.1) (by rw [uI_o j44]; exact r2.2.2.2.2.1.2.2) r2.2.2.2.2.2.2.1.1 (Nat.zero_le _) (by rw [uI_o j19]; exact r2.2.2.2.2.2.2.2)
  have ph2 := Ph_s (σ := τ1) (σ' := uI τ1 (fP b 4) x4) rfl
  have dy2 : Dy b σ N (0 + n1) (0 + n2) (uI τ1 (fP b 4) x4) := ⟨DK_t dy1.1 q2.2 (Nat.le_refl _), by have := dy1.2.1; omega, by have := dy1.2.2; omega⟩
  have pm2 : PmS T n b nc 2 0 N s.1 0 E1 vg σ 0 E1 0 (fun _ => 0) (tkN T n (tkN T n (tkN T n q))) 0 (uI τ1 (fP b 4) x4) := ⟨⟨q2.1, ⟨r3.1, ⟨by rw [uI_o j3]; exact r3.2.1.1, r3.2.1.2⟩, by rw [uI_o j8]; exact r3.2.2.1, by rw [uI_o j9]; exact r3.2.2.2.1, r3.2.2.2.2⟩, r4⟩, ⟨rfl, Nat.zero_le _⟩, ⟨by rw [uI_o j12]; exact r5, r6, r7, r8, r9⟩, MdN_0, rfl, ⟨rfl, rfl, rfl⟩, fun _ _ => rfl, E1n⟩
  have gz : ∃ x, GPm T n true nc (fu n) E1 0 (fun _ => 0) (tkN T n (tkN T n (tkN T n q))) 0 (bKeep bt T (tkN T n q) (tkE T n (tkN T n q) - tkN T n q)) = some x := by
    rcases pb_any w2 with ⟨z, _⟩ | ⟨t, z, _⟩
    · exact ⟨_, z⟩
    · exact ⟨_, z⟩
  obtain ⟨x, hx⟩ := gz
  rw [hx] at w2
  have h16 : σ.2.2.1 (pR16 b) 0 = nI v ∧ v ≤ 60 := h1.2.2.2.2.2.2.1
  have Kq : PmK T n b nc 2 N s.1 E1 vg q 1 σ X (fun h _ τ' => DSt T n b N0 W K h τ') f_X5_procedure x := by
    refine ⟨fun e => ?_, fun a e M a1 a2 L' τ' dy pm k7 l1 hq hb => ?_⟩
    · rw [e, pb_nn] at w2
      exact (Option.some.inj w2).symm
    · rw [e, pb_ss] at w2
      have bq : 2 * N + 7 * (n - a.1) + 110 ≤ K := by omega
      have pq : PrQ T n b nc N N0 W s.1 E1 E vg v M a.2.2.1 a.2.2.2.1 MD a.2.1 a.1 a.2.2.2.2.1 σ τ' c := ⟨⟨pm, pg, ut⟩, ⟨eN, hN0, hcd⟩, n40, ⟨h16, h2.1, evg, h41⟩, E1p, E1x, E1f, bd3, bd4⟩
      exact c_pr1 (E := a.2.1) (bt := a.2.2.2.2.2) (bt0 := bt) (pc := pc) (F := F) (MD := MD) (md := a.2.2.2.1) rfl pq k7 dy l1 hb bq hK w2
  rw [fu_s] at hx
  rw [GPm, if_pos rfl] at hx
  have e10 : (lI L 1 ret1).1 1 = nI E1.1.length := r1
  by_cases k7 : tkK T n (tkN T n (tkN T n (tkN T n q))) = 7
  · rw [if_pos k7] at hx
    refine Tm_yes ((lx_k (kk := 7) q2.1 (by decide)).2 k7) ?_
    exact Kq.2 _ (Option.some.inj hx).symm 0 _ _ (lI L 1 ret1) _ dy2 pm2 k7 e10 (by show q ≤ _; omega) bd2
  · rw [if_neg k7] at hx
    refine Tm_no (fun z => k7 ((lx_k (kk := 7) q2.1 (by decide)).1 z)) ?_
    exact pr_pm (L2 := lI (lI L 1 ret1) 2 0) (by omega) (pr_lp (by omega) _) hx Kq dy2 pm2 (by omega) bd2 r1 r1 (Nat.zero_le _)
end DYL
