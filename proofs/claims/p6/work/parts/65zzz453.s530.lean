/-! The class: funcs are read. -/
section DYH
variable {σ σ' σ0 σ2 τ τ' τ0 : CS} {L L2 : LV} {b pr : Bool} {T : Nat → Int32} {n q q' q0 u al o v v0 v' mk mk' p sz nc a1 a2 m f w st r0 vg vg' N N0 N1 M j W np pc oq K : Nat} {y qh x : Int32} {l l' cs cs' : List Int32} {tb tb' A B : List Ent} {E E' E0 E1 : En} {bt bt0 : BT} {lo : Option Nat} {md : Nat → Nat} {MD : Nat → Nat → Nat} {c c' : Ct} {g : PRG} {s : SB} {F : Nat → Int32}
theorem c_emitQ (h : QS T n b u al tb o q v mk p sz τ) (hb : L.2.2.1 0 = b) (h1 : L.1 1 = nI oq) (hm : sz + 1 ≤ 36864) : Tm (fun k => f_X7_emit__P k 0 L τ) (QPo b u tb.length sz mk (some ()) (fun _ _ τ' => QS T n b u al tb o q v mk p (sz + 1) τ' ∧ cdr b τ' sz = em oq (L.1 2)) τ 0 0) := by
  refine Tm_mono (c_emit h.2.1 hb hm) (fun r z => ?_)
  obtain ⟨z1, z2, z3⟩ := z
  obtain ⟨q1, x1⟩ := QS_cd h z3
  have e0 : r.1.1 = 0 := by rw [z1]
  refine ⟨fun t e => ⟨e0, q1, ?_⟩, fun e => (by cases e), fun _ => ⟨by have := z2.1; omega, by have := z2.2; omega⟩, fun e => absurd e0 e, x1⟩
  have y := z3.2.2.2 0 (by show 0 < 1; decide)
  rw [Nat.add_zero] at y
  rw [y, h1]
  rfl
/-- the code so far, and what was laid since -/
def cdX (N0 : Nat) (c : Ct) (b : Bool) (τ : CS) : Nat → Int32 := fun i => if i < N0 then tcC c i else cdr b τ i
theorem cdX_1 (hN0 : N0 ≤ N) (h0 : ∀ i, N0 ≤ i → i < N → cdr b σ0 i = tcC c i) (hk : DK b N σ0 τ) : ∀ i, i < N → cdX N0 c b τ i = tcC c i := fun i hi => by
  unfold cdX
  by_cases e : i < N0
  · rw [if_pos e]
  · rw [if_neg e, (hk.2.2.2.1 i hi).1, h0 i (by omega) hi]
theorem cdX_2 {i : Nat} (hi : N0 ≤ i) : cdX N0 c b τ i = cdr b τ i := if_neg (by omega)
theorem pb_pW {α β : Type} {t q : Nat} {k : Nat → Option (Option α)} {K : α → Option (Option β)} : pb (pW T n t q k) K = pW T n t q (fun q1 => pb (k q1) K) := by
  unfold pW pT
  by_cases h : tkK T n q = t
  · rw [if_pos h, if_pos h]
    by_cases h2 : tkK T n (tkN T n q) = 0
    · rw [if_pos h2, if_pos h2]; rfl
    · rw [if_neg h2, if_neg h2]
  · rw [if_neg h, if_neg h]; rfl
theorem pb_pb {α β γ : Type} {x : Option (Option α)} {k : α → Option (Option β)} {K : β → Option (Option γ)} : pb (pb x k) K = pb x (fun a => pb (k a) K) := by
  cases x with
  | none => rfl
  | some y => cases y <;> rfl
/-- a unit is done: so it stands between declarations -/
theorem fn_end {q9 N9 pc9 : Nat} {bt9 : BT} {s9 : SB} {F9 : Nat → Int32} {MD9 : Nat → Nat → Nat} {ρ : CS} (q6 : QS T n b 0 2 (E.1.map gEn) 0 q9 v0 0 0 N9 ρ) (zf : ZF b 0 v0 s9.1 none 0 ρ) (de : DE E (nc + 1) vg (nc + 1) v) (hvg : vg = v0) (h60 : v0 ≤ 60) (e12 : ρ.1 (fP b 12) = nI (nc + 1)) (ut : UTb b (nc + 1) c MD9 ρ) (pgt : PgT E vg (nc + 1) N0 W c) (eN : tcN c = N9) (hN : N0 ≤ N9) (hc : ∀ i, N0 ≤ i → i < N9 → cdr b ρ i = tcC c i) (bd : 2 * N9 + 7 * (n - q9) + 110 ≤ K) (hK : K ≤ 73728) (h41 : ρ.2.2.1 (pR18 b) 41 = 0) (hb : 1 ≤ bt9.1) (hs : s9.1 ≤ 400) (n10 : n ≤ 10240) : DSt T n b N0 W K (q9, (E.1, [], [], 0, true, true, E.2.2.2.2.2.2), MD9, nc + 1, pc9, v0, bt9, s9, F9) ρ := by
  refine ⟨c, N9, vg, ⟨?_, zf, ⟨⟨rfl, fun _ => ⟨rfl, hvg⟩, fun e => absurd rfl e⟩, ⟨de.2.1.1, de.2.1.2.1, de.2.1.2.2.1, h60⟩, de.2.2.1, de.2.2.2.1, fun x hx => absurd hx List.not_mem_nil⟩⟩, ⟨rfl, rfl, e12, h41⟩, ut, pgt, ⟨eN, hN, hc⟩, ⟨bd, hb, hs, n10, hK⟩⟩
  show QS T n b 0 2 (E.1.map gEn ++ []) 0 q9 v0 0 0 N9 ρ
  rw [List.append_nil]
  exact q6
/-- behind the exp of a func: ; -/
theorem c_fn2 {X : Option PRG} {r1 rv pc9 : Nat} {bt9 : BT} {F9 : Nat → Int32} {MD9 : Nat → Nat → Nat} (q3 : QS T n b (nc + 1) 0 (tbE (nc + 1) E) 0 r1 rv 0 0 (N + cs.length) τ) (zf3 : ZF b (nc + 1) v s.1 none 0 τ) (uk : UnK b (nc + 1) σ0 τ) (e12 : τ.1 (fP b 12) = nI (nc + 1)) (dy3 : Dy b σ0 N a1 a2 τ) (cd3 : ∀ i, i < cs.length → cdr b τ (N + i) = cs.getD i 0) (sg : Sgm (nc + 1) 0 (glD E vg) (VmD v) 1 cs) (ut3 : UTb b (nc + 1) c MD9 τ) (ti : TI noP noP (nc + 1) RK c) (pgu : PgU E vg (nc + 1) N0 W c) (hD : tcD c N = some (nc + 1, 0, (bsl + v) :: Vl v, RK)) (eN : tcN c = N) (eF : tcF c (nc + 1) = v) (eK : tcK c (nc + 1)) (hN0 : N0 ≤ N) (hcd : ∀ i, N0 ≤ i → i < N → cdr b σ0 i = tcC c i) (n40 : nc < 40) (de : DE E (nc + 1) vg (nc + 1) v) (h16 : σ0.2.2.1 (pR16 b) 0 = nI v0 ∧ v0 ≤ 60) (h18 : σ0.2.2.1 (pR18 b) 0 = nI v0) (hvg : vg = v0) (l1 : L.1 1 = nI E.1.length) (hs : s.1 ≤ 400) (hb1 : 1 ≤ bt9.1) (n10 : n ≤ 10240) (bd : 2 * (N + cs.length + 1) + 7 * (n - r1) + 103 ≤ K) (hK : K ≤ 73728) (h41 : σ0.2.2.1 (pR18 b) 41 = 0) (hG : pW T n 13 r1 (fun q2 => some (some (q2, (E.1, [], [], 0, true, true, E.2.2.2.2.2.2), MD9, nc + 1, pc9, v0, bt9, s, F9))) = some X) : Tm (fun k => oP (sPp τ) (fun b4 => ox (f_X7_emit__P k 0 (lI (lI (lB lZ 0 b4) 1 18) 2 0) τ) (fun r5 => ox (f_X5_expect k 0 (lI lZ 1 17) r5.2.1) (fun r6 => op (y_X5_closeUnit k 0 (lI lZ 1 (L.1 1)) r6.2.1) (fun r7 => some ((0, 0), r7.2, (0, 0))))))) (DPo b N X (fun g _ τ' => DSt T n b N0 W K g τ') σ0 a1 a2) := by
  have r1n : r1 ≤ n := q3.1.2.2.2.1
  have tb4 := tkN_b T n r1 r1n
  have v60 : v ≤ 60 := de.2.1.2.2.2
  have lN : N + cs.length + 1 ≤ 36864 := by omega
  refine Tm_oP q3.2.2.2.2.1.1 ?_
  refine dt_callQ (z := some ()) dy3 (Nat.le_add_right _ _) (c_emitQ (oq := 18) q3 rfl rfl lN) (Or.inr ⟨_, rfl, fun τ4 ret4 n7 n8 r4 xk4 dy4 => ?_⟩)
  obtain ⟨q4, cd4⟩ := r4
  have lN4 : N ≤ N + cs.length + 1 := by omega
  rcases pW_any hG with ⟨w5, w6⟩ | ⟨w5, w6⟩
  · rw [w6]
    exact dt_callQ (z := none) dy4 lN4 (c_expectQ (kk := 13) q4 (by decide) rfl (Or.inl ⟨w5, rfl⟩)) (Or.inl ⟨rfl, rfl⟩)
  have gq4 := tb4.2.2.2 (by rw [w5.1]; decide)
  have bd' : 2 * (N + cs.length + 1) + 7 * (n - tkN T n r1) + 110 ≤ K := by omega
  rw [(Option.some.inj w6).symm]
  refine dt_callQ (z := some _) dy4 lN4 (c_expectQ (kk := 13) q4 (by decide) rfl (Or.inr ⟨w5, rfl⟩)) (Or.inr ⟨_, rfl, fun τ5 ret5 n9 n10' q5 xk5 dy5 => ?_⟩)
  have zk35 := ZK_t (ZK_of xk4) (ZK_of xk5) (Nat.le_refl _) (Nat.le_add_right _ _) (Nat.le_refl _)
  have uk5 : UnK b (nc + 1) σ0 τ5 := UnK_t uk (UnK_Z zk35)
  have ne0 : ¬ 0 = nc + 1 := by omega
  have e16 : τ5.2.2.1 (pR16 b) 0 = nI v0 := ((uk5 0 ne0).2.1.2).trans h16.1
  have e18 : τ5.2.2.1 (pR18 b) 0 = nI v0 := ((uk5 0 ne0).2.2).trans h18
  have q5' : QS T n b (nc + 1) 0 (E.1.map gEn ++ E.2.1.reverse.map (lEn (nc + 1))) 0 (tkN T n r1) rv 0 0 (N + cs.length + 1) τ5 := q5
  refine Tm_op (cl_unit (L := lI lZ 1 (L.1 1)) q5' e16 h16.2 (by rw [List.length_map]; exact l1)) (fun r6 z6 => ?_)
  obtain ⟨q6, dk6, e62, e61⟩ := z6
  have ph6 := Ph_s (σ := τ5) (σ' := r6.2) (by rw [e62])
  have dy6 : Dy b σ0 N (a1 + n7 + n9) (a2 + n8 + n10') r6.2 := ⟨DK_t dy5.1 dk6 lN4, by have := dy5.2.1; omega, by have := dy5.2.2; omega⟩
  refine Tm_some (Dfin dy6 ?_)
  have fn := fP_ns b
  have f9 := fP_19 b
  have j3 : ¬ (fP b 3 = 4003 ∨ fP b 3 = 4004 ∨ fP b 3 = fP b 11) := by cases b <;> decide
  have j12 : ¬ (fP b 12 = 4003 ∨ fP b 12 = 4004 ∨ fP b 12 = fP b 11) := by cases b <;> decide
  have j8 : ¬ (4008 = 4003 ∨ 4008 = 4004 ∨ 4008 = fP b 11) := by cases b <;> decide
  have j9 : ¬ (4009 = 4003 ∨ 4009 = 4004 ∨ 4009 = fP b 11) := by cases b <;> decide
  have zf5 := ZF_k (ZF_k zf3 xk4) xk5
  have zf6 : ZF b 0 v0 s.1 none 0 r6.2 := by
    refine ⟨by rw [e62]; exact e18, ⟨by rw [e61 _ j3]; exact zf5.2.1.1, hs⟩, by rw [e61 _ j8]; exact zf5.2.2.1, by rw [e61 _ j9]; exact zf5.2.2.2.1, ?_⟩
    show r6.2.2.2.2.2.1 42 = 64 ∨ r6.2.2.2.2.2.1 42 = 16384
    rw [e62]
    exact zf5.2.2.2.2
  have cdf : ∀ i, cdr b r6.2 i = cdr b τ5 i := fun i => by
    show r6.2.2.2.1 (r6.2.2.2.2.2.2.1.2.2.2.2 b |> pR0) i = _
    rw [e62]
  have cd5 : ∀ i, i < cs.length → cdr b r6.2 (N + i) = cs.getD i 0 := fun i hi => by
    have l4 : N + i < N + cs.length := by omega
    have l5 : N + i < N + cs.length + 1 := by omega
    rw [cdf, (xk5.2.2.2.2.2.1 (N + i) l5).1, (xk4.2.2.2.2.2.1 (N + i) l4).1]
    exact cd3 i hi
  have cd6 : cdr b r6.2 (N + cs.length) = em 18 0 := by
    rw [cdf, (xk5.2.2.2.2.2.1 (N + cs.length) (Nat.lt_succ_self _)).1]
    exact cd4
  have hC1 : ∀ i, i < N → cdX N0 c b r6.2 i = tcC c i := cdX_1 hN0 hcd dy6.1
  have lc : N0 ≤ N + cs.length := by omega
  obtain ⟨D, pgt⟩ := Un_f (C := cdX N0 c b r6.2) (cs := cs) (F := v) (v := v) ti (Nat.le_refl _) pgu n40 (Nat.le_refl _) eK eF (Nat.le_trans v60 (by decide)) (Nat.le_refl _) (by rw [eN]; exact hD) (by rw [eN]; exact hN0) sg (by rw [eN]; exact lN) (by rw [eN]; exact hC1) (by rw [eN]; exact fun i hi => by rw [cdX_2 (Nat.le_trans hN0 (Nat.le_add_right _ _))]; exact cd5 i hi) (by rw [eN, cdX_2 lc]; exact cd6)
  rw [eN] at pgt
  have ut6 : UTb b (nc + 1) (mkc c (cdX N0 c b r6.2) (N + cs.length + 1) D) MD9 r6.2 := fun i hi => by
    rw [e62]
    have e13 := ZK_13 zk35
    obtain ⟨⟨y1, y2, y3⟩, y4⟩ := ut3 i hi
    refine ⟨⟨by rw [e13.1]; exact y1, by rw [e13.2.1]; exact y2, ?_⟩, fun j hj => by rw [e13.2.2]; exact y4 j hj⟩
    by_cases ei : i = nc
    · rw [ei]
      show τ5.2.2.1 (pR18 b) (nc + 1) = nI (tcF c (nc + 1))
      rw [eF]
      exact zf5.1
    · rw [(UnK_Z zk35 (i + 1) (fun z => ei (Nat.succ.inj z))).2.2]
      exact y3
  exact fn_end (c := mkc c (cdX N0 c b r6.2) (N + cs.length + 1) D) q6 zf6 de hvg h16.2 (by rw [e61 _ j12, ZK_12 zk35, e12]) ut6 pgt rfl (Nat.le_trans lc (Nat.le_succ _)) (fun i h1 _ => (cdX_2 h1).symm) bd' hK (by rw [e62]; exact ((uk5 41 (by omega)).2.2).trans h41) hb1 hs n10
/-- behind the params of a func: ) = exp ; -/
theorem c_fn1 {X : Option PRG} (pm : PmS T n b nc 0 0 N s.1 0 E1 vg σ0 M E np md q v τ) (k7 : tkK T n q = 7) (dy : Dy b σ0 N a1 a2 τ) (pg : PgT E0 vg nc N0 W c) (ut : UTb b nc c MD σ0) (eN : tcN c = N) (hN0 : N0 ≤ N) (hcd : ∀ i, N0 ≤ i → i < N → cdr b σ0 i = tcC c i) (hn : nc < 40) (h16 : σ0.2.2.1 (pR16 b) 0 = nI v0 ∧ v0 ≤ 60) (h18 : σ0.2.2.1 (pR18 b) 0 = nI v0) (hvg : vg = v0) (eP : ∀ i, i < nc → E1.2.2.2.2.2.2 i = E0.2.2.2.2.2.2 i) (hx : ∀ x, x ∈ E1.1 → x ∈ E0.1 ∨ (x.2.2.2 = nc ∧ (x.2.2.1 = 2 → True) ∧ (x.2.2.1 = 3 → ¬ True))) (f1 : E1.2.2.2.2.1 = false ∧ E1.2.2.2.2.2.1 = false) (l1 : L.1 1 = nI E1.1.length) (hs : s.1 ≤ 400) (hb1 : 1 ≤ bt.1) (n10 : n ≤ 10240) (bd : 2 * N + 7 * (n - q) + 110 ≤ K) (hK : K ≤ 73728) (h41 : σ0.2.2.1 (pR18 b) 41 = 0) (hG : pT T n q (fun q5 => pb (gBod T n false (fun p => if p = nc then md else MD p) E q5 v bt s) (fun z => some (some (z.1, (E.1, [], [], 0, true, true, E.2.2.2.2.2.2), (fun p => if p = nc then md else MD p), nc + 1, pc, v0, bRes bt0.2.2.2.2 z.2.2.1, z.2.2.2, upF F nc z.2.1 z.2.2.1.2.2.2.2)))) = some X) : Tm (fun k => f_X5_function k 1 L τ) (DPo b N X (fun g _ τ' => DSt T n b N0 W K g τ') σ0 a1 a2) := by
  have pm0 := pm
  obtain ⟨⟨h1, h2, h3⟩, ⟨h4, h4'⟩, ⟨h5, h6, h7, h8, h9⟩, h10, ⟨g1, ⟨g2, g3, g4⟩, g5, g6⟩⟩ := pm
  have qn : q ≤ n := h1.1.2.2.2.1
  have tb1 := tkN_b T n q qn
  have gq := tb1.2.2.2 (by rw [k7]; decide)
  have v60 : v ≤ 60 := h3.2.1.2.2.2
  have tl : (tbE (nc + 1) E).length = E.1.length + v := by rw [tbE_l, h3.1.2.2 (by omega)]
  have el := h3.2.1
  refine Tm_suc (fun k => by rw [f_X5_function]) ?_
  rcases pT_any hG with ⟨w1, w2⟩ | ⟨w1, w2⟩
  · rw [w2]
    exact dt_callQ (z := none) dy (Nat.le_refl _) (c_closesQ (kk := 7) h1 (by decide) rfl (Or.inl ⟨fun e => e.2 w1, rfl⟩)) (Or.inl ⟨rfl, rfl⟩)
  refine dt_callQ (z := some _) dy (Nat.le_refl _) (c_closesQ (kk := 7) h1 (by decide) rfl (Or.inr ⟨⟨k7, w1⟩, rfl⟩)) (Or.inr ⟨_, rfl, fun τ1 ret1 n1 n2 q1 xk1 dy1 => ?_⟩)
  have tb2 := tkN_b T n (tkN T n q) tb1.2.1
  have w2' : pW T n 17 (tkN T n q) (fun q1 => pb (G T n (fu n) 0 E 0 q1 v 0 0 0 0 bt) (fun t => pW T n 13 t.1 (fun q2 => some (some ((q2, (E.1, [], [], 0, true, true, E.2.2.2.2.2.2), (fun p => if p = nc then md else MD p), nc + 1, pc, v0, bRes bt0.2.2.2.2 t.2.2.2.2.1, s, upF F nc (nI t.2.2.2.1, t.2.1) t.2.2.2.2.1.2.2.2.2) : PRG))))) = some X := by
    rw [← w2]
    unfold gBod
    rw [if_neg (by decide), pb_pW]
    refine congrArg (pW T n 17 (tkN T n q)) (funext fun q1 => ?_)
    rw [pb_pb]
    refine congrArg (pb _) (funext fun t => ?_)
    rw [pb_pW]
    rfl
  rcases pW_any w2' with ⟨w3, w4⟩ | ⟨w3, w4⟩
  · rw [w4]
    exact dt_callQ (z := none) dy1 (Nat.le_refl _) (c_expectQ (kk := 17) q1 (by decide) rfl (Or.inl ⟨w3, rfl⟩)) (Or.inl ⟨rfl, rfl⟩)
  refine dt_callQ (z := some _) dy1 (Nat.le_refl _) (c_expectQ (kk := 17) q1 (by decide) rfl (Or.inr ⟨w3, rfl⟩)) (Or.inr ⟨_, rfl, fun τ2 ret2 n3 n4 q2 xk2 dy2 => ?_⟩)
  have gq2 := tb2.2.2.2 (by rw [w3.1]; decide)
  have tb3 := tkN_b T n (tkN T n (tkN T n q)) tb2.2.1
  have zk2 := ZK_t (ZK_of xk1) (ZK_of xk2) (Nat.le_refl _) (Nat.le_refl _) (Nat.le_refl _)
  -- the code is typed from here
  have zf2 := ZF_k (ZF_k h2 xk1) xk2
  obtain ⟨⟨ti, pgu, hD⟩, ut2⟩ := Un_in (isF := True) (ρ := RK) (v' := v) (τ' := τ2) pm0 pg ut eN hN0 hn ⟨by omega, v60⟩ (Nat.le_refl _) (fun e => absurd trivial e) eP hx E ⟨rfl, rfl⟩ (UnK_Z zk2) ⟨by rw [(ZK_13 zk2).1], by rw [(ZK_13 zk2).2.1], by rw [(ZK_13 zk2).2.2]⟩ zf2.1
  have ev : EvX E b (nc + 1) 0 (glD E vg) (VmD v) (tbE (nc + 1) E) τ2 := EvX_P h3 pgu ut2 (by omega) (by omega) (by rw [g3, f1.1]; exact ⟨fun e => (by cases e), fun e => absurd e (by decide)⟩) (by rw [g4, f1.2]; exact ⟨fun e => (by cases e), fun e => absurd e (by omega)⟩)
  have bdx : BdX n 0 (tkN T n (tkN T n q)) v 0 0 N (tbE (nc + 1) E).length := ⟨n10, by omega, by omega, by omega, by omega⟩
  have hGx : ∃ z, G T n (fu n) 0 E 0 (tkN T n (tkN T n q)) v 0 0 0 0 bt = some z := by
    rcases pb_any w4 with ⟨z, _⟩ | ⟨t, z, _⟩
    · exact ⟨_, z⟩
    · exact ⟨_, z⟩
  obtain ⟨z, hz⟩ := hGx
  rw [hz] at w4
  cases z with
  | none =>
    rw [(Option.some.inj w4).symm]
    exact dt_callQ (z := none) dy2 (Nat.le_refl _) (px_all (fu n) 400 0 0 (Or.inl ⟨rfl, rfl⟩) E 0 _ v bt none hz (glD E vg) (VmD v) _ 0 0 N τ2 _ q2 ev bdx rfl (by omega)) (Or.inl ⟨rfl, rfl⟩)
  | some r =>
    have mo := g_mo0 tb2.2.1 v60 hb1 hz
    refine dt_callQ (z := some r) dy2 (Nat.le_refl _) (px_all (fu n) 400 0 0 (Or.inl ⟨rfl, rfl⟩) E 0 _ v bt (some r) hz (glD E vg) (VmD v) _ 0 0 N τ2 _ q2 ev bdx rfl (by omega)) (Or.inr ⟨_, rfl, fun τ3 ret3 n5 n6 r3 xk3 dy3 => ?_⟩)
    obtain ⟨cs, q3, cd3, sg, ln, lt, lv, _⟩ := r3
    have zk3 := ZK_of xk3
    have zk23 := ZK_t zk2 zk3 (Nat.le_refl _) (Nat.le_refl _) (Nat.le_refl _)
    have zf3 := ZF_k zf2 xk3
    have eFu : tcF (unB c (nc + 1) np v True RK) (nc + 1) = v := if_pos rfl
    have eKu : tcK (unB c (nc + 1) np v True RK) (nc + 1) := by
      show (if nc + 1 = nc + 1 then True else _)
      rw [if_pos rfl]
      trivial
    have ut3 : UTb b (nc + 1) (unB c (nc + 1) np v True RK) (fun p => if p = nc then md else MD p) τ3 := fun i hi => by
      have e13 := ZK_13 zk3
      obtain ⟨⟨y1, y2, y3⟩, y4⟩ := ut2 i hi
      refine ⟨⟨by rw [e13.1]; exact y1, by rw [e13.2.1]; exact y2, ?_⟩, fun j hj => by rw [e13.2.2]; exact y4 j hj⟩
      by_cases ei : i = nc
      · rw [ei, eFu]
        exact zf3.1
      · rw [(UnK_Z zk3 (i + 1) (fun z => ei (Nat.succ.inj z))).2.2]
        exact y3
    exact c_fn2 (L := L) (cs := cs) (c := unB c (nc + 1) np v True RK) q3 zf3 (UnK_t h6 (UnK_Z zk23)) (by rw [ZK_12 zk23, h5]) dy3 cd3 sg ut3 ti pgu hD eN eFu eKu hN0 hcd hn h3 h16 h18 hvg (by rw [l1, g1]) hs (by show 1 ≤ r.2.2.2.2.1.1; omega) n10 (by omega) hK h41 w4
end DYH
