section JnS505
/-! The class: ifs are read. -/
section CXU
variable {σ σ' σ0 τ τ' τ0 : CS} {L : LV} {b : Bool} {T : Nat → Int32} {n q q' u al o v mk mk' p sz sz' szB szE nc nc0 sz0 mk0 a1 a2 m kk f e s0 ow a t0 g D w st w' st' M nm deep vv np lp N Bd ns nb k d P h st0 b0 : Nat} {y qh qh' y0 y1 wd x0 : Int32} {l l' cs cs' cs2 ll lt lt0 co bo : List Int32} {tb : List Ent} {E : En} {gl : Nat × (Nat → Nat → Prop)} {Vm : Nat → Prop} {Pc : Nat → Nat → Prop} {MD : Nat → Nat → Nat} {md : Nat → Nat} {bt : BT} {ks qs qs' qa qb js es qsI : List Nat} {lo lo' : Option Nat} {s : SB}
/-- how an if stands behind a branch -/
def IfSt (T : Nat → Int32) (n : Nat) (b : Bool) (u al : Nat) (gl : Nat × (Nat → Nat → Prop)) (Pc : Nat → Nat → Prop) (Vm : Nat → Prop) (σ : CS) (a1 a2 : Nat) (tb : List Ent) (o mk w : Nat) (lo : Option Nat) (qh : Int32) (N q v st0 : Nat) (ow : Option Nat) (r : Nat × Nat × Nat) (L : LV) (τ : CS) : Prop := ∃ (cs : List Int32) (js es : List Nat) (ns : Nat), Zy T n b u al σ tb.length N mk a1 a2 tb (o + 1) r.1 r.2.1 mk w r.2.2 lo (hdQ N qh js) N cs τ ∧ IfX u gl Pc Vm w N lo qh (bdO (o + 1) v) ns js es ow cs ∧ (2 * cs.length ≤ 7 * (r.1 - q) ∧ ns + st0 ≤ r.2.2 + 1 ∧ es.length ≤ r.1) ∧ (q < r.1 ∧ v ≤ r.2.1) ∧ L.1 1 = nI (jsH N es) ∧ ((ow = none ∧ L.1 2 = -1) ∨ ∃ h, ow = some h ∧ L.1 2 = nI (N + h))
theorem fi_0 (k d : Nat) (L : LV) (σ : CS) : f_F3 (k + 1) d 2 0 L σ = (ox (f_X5_opens k 0 lZ σ) (fun r1 => if ((r1.2.1.1 3702)) = 63 then (ox (f_X2_advance k 0 lZ r1.2.1) (fun r3 => oP (sPp r3.2.1) (fun b4 => ox (f_X7_emit__P k 0 (lI (lI (lB lZ 0 b4) 1 21) 2 0) r3.2.1) (fun r5 => f_F3 k d 2 2 L r5.2.1)))) else (f_F3 k d 2 1 L r1.2.1))) := rfl
theorem fi_1 (k d : Nat) (L : LV) (σ : CS) : f_F3 (k + 1) d 2 1 L σ = (ox (f_X5_exp k 0 (lI lZ 1 0) σ) (fun r1 => f_F3 k d 2 2 L r1.2.1)) := rfl
theorem fi_2 (k d : Nat) (L : LV) (σ : CS) : f_F3 (k + 1) d 2 2 L σ = (ox (f_X5_expect k 0 (lI lZ 1 40) σ) (fun r1 => oP (sPp r1.2.1) (fun b2 => ox (f_X7_emit__P k 0 (lI (lI (lB lZ 0 b2) 1 4) 2 0) r1.2.1) (fun r3 => of d (fun e4 => ox (f_F3 k e4 0 0 lZ r3.2.1) (fun r4 => f_F3 k d 2 3 (lI (lI (lI L 1 0) 2 r3.1.2) 3 0) r4.2.1)))))) := rfl
theorem fi_3 (k d : Nat) (L : LV) (σ : CS) : f_F3 (k + 1) d 2 3 L σ = (if 32768 < ((L.1 3)) then (f_F3 k d 2 4 L σ) else (if ((σ.1 3702)) = 41 then (oP (sPp σ) (fun b3 => ox (f_X7_emit__P k 0 (lI (lI (lB lZ 0 b3) 1 3) 2 ((L.1 1))) σ) (fun r4 => oP (sPp r4.2.1) (fun b5 => oP (sPp r4.2.1) (fun b6 => op (y_X7_aim__P k 0 (lI (lI (lB lZ 0 b5) 1 ((L.1 2))) 2 ((r4.2.1.1 (fP b6 1)))) r4.2.1) (fun r7 => ox (f_X2_advance k 0 lZ r7.2) (fun r8 => ox (f_X5_exp k 0 (lI lZ 1 0) r8.2.1) (fun r9 => ox (f_X5_expect k 0 (lI lZ 1 40) r9.2.1) (fun r10 => oP (sPp r10.2.1) (fun b11 => ox (f_X7_emit__P k 0 (lI (lI (lB lZ 0 b11) 1 4) 2 0) r10.2.1) (fun r12 => of d (fun e13 => ox (f_F3 k e13 0 0 lZ r12.2.1) (fun r13 => f_F3 k d 2 3 (lI (lI (lI L 1 r4.1.2) 2 r12.1.2) 3 ((((L.1 3)) + 1))) r13.2.1))))))))))))) else (f_F3 k d 2 4 L σ))) := rfl
theorem fi_4 (k d : Nat) (L : LV) (σ : CS) : f_F3 (k + 1) d 2 4 L σ = (if ((σ.1 3702)) = 42 then (oP (sPp σ) (fun b2 => ox (f_X7_emit__P k 0 (lI (lI (lB lZ 0 b2) 1 3) 2 ((L.1 1))) σ) (fun r3 => oP (sPp r3.2.1) (fun b4 => oP (sPp r3.2.1) (fun b5 => op (y_X7_aim__P k 0 (lI (lI (lB lZ 0 b4) 1 ((L.1 2))) 2 ((r3.2.1.1 (fP b5 1)))) r3.2.1) (fun r6 => ox (f_X2_advance k 0 lZ r6.2) (fun r7 => of d (fun e8 => ox (f_F3 k e8 0 0 lZ r7.2.1) (fun r8 => f_F3 k d 2 5 (lI (lI L 1 r3.1.2) 2 ((-1))) r8.2.1))))))))) else (f_F3 k d 2 5 L σ)) := rfl
theorem fi_5 (k d : Nat) (L : LV) (σ : CS) : f_F3 (k + 1) d 2 5 L σ = (ox (f_X5_closes k 0 (lI lZ 1 38) σ) (fun r1 => if ((L.1 2)) = ((-1)) then (f_F3 k d 2 6 L r1.2.1) else (oP (sPp r1.2.1) (fun b3 => oP (sPp r1.2.1) (fun b4 => op (y_X7_aim__P k 0 (lI (lI (lB lZ 0 b3) 1 ((L.1 2))) 2 ((r1.2.1.1 (fP b4 1)))) r1.2.1) (fun r5 => f_F3 k d 2 6 L r5.2)))))) := rfl
theorem fi_6 (k d : Nat) (L : LV) (σ : CS) : f_F3 (k + 1) d 2 6 L σ = (op (y_X5_aimAll k 0 (lI lZ 1 ((L.1 1))) σ) (fun r1 => some ((0, 0), r1.2, (0, 0)))) := rfl
theorem c_ifEnd {ow : Option Nat} {r : Nat × Nat × Nat} (hi : IfSt T n b u al gl Pc Vm σ a1 a2 tb o mk w lo qh N q v st0 ow r L τ) (n10 : n ≤ 10240) (hN : 2 * N + 7 * (n - q) + 110 ≤ 73728) (ho : o < 20) : Tm (fun k => f_F3 k d 2 5 L τ) (ZPo b u tb.length N mk (lbZ T n (Sum.inr r)) (fun r _ τ => S1W T n b u al gl Pc Vm tb o mk N q v w st0 lo qh (bdO o v) r τ) σ a1 a2) := by
  obtain ⟨cs, js, es, ns, s1, ix, ⟨ln, lns, les⟩, ⟨lq, lv⟩, l1, l2⟩ := hi
  have go := tk_go s1.1.1
  by_cases k38 : tkK T n r.1 = 38 ∧ ¬ tkK T n (tkN T n r.1) = 0
  case neg =>
    have e : lbZ T n (Sum.inr r) = Sum.inl (wF T n 38 r.1) := if_neg k38
    rw [e]
    refine Tm_suc (fun k => fi_5 k _ _ _) ?_
    exact zt_closes (kk := 38) (C := False) s1 (by decide) rfl (Or.inl ⟨k38, rfl⟩) (fun _ _ _ _ c _ _ => c.elim)
  have e : lbZ T n (Sum.inr r) = Sum.inr (tkN T n r.1, r.2.1, r.2.2) := if_pos k38
  rw [e]
  have g2 := go.2.2 (by omega)
  -- all that waits for the end comes there
  have b6 : ∀ (τ3 : CS) (n1 n2 : Nat) (cs3 : List Int32), Zy T n b u al σ tb.length N mk n1 n2 tb o (tkN T n r.1) r.2.1 mk w r.2.2 lo (hdQ N qh js) N cs3 τ3 → cs3.length = cs.length → JsC N cs3 es → (∀ i, i < cs.length → ¬ ow = some i → cs3.getD i 0 = cs.getD i 0) → (∀ i, ow = some i → cs3.getD i 0 = em 4 (nI (cs.length - i))) → (∀ i, ow = some i → ¬ i ∈ es) → Tm (fun k => f_F3 k d 2 6 L τ3) (ZPo b u tb.length N mk (Sum.inr (tkN T n r.1, r.2.1, r.2.2)) (fun r _ τ => S1W T n b u al gl Pc Vm tb o mk N q v w st0 lo qh (bdO o v) r τ) σ n1 n2) := by
    intro τ3 n1 n2 cs3 s3 l3 jc3 h1 h2 h3
    refine Tm_suc (fun k => fi_6 k _ _ _) ?_
    have t6 : Tm (fun k => y_X5_aimAll k 0 (lI lZ 1 (L.1 1)) τ3) (fun r' => Sy T n b u al τ3 tb.length N mk 0 0 tb o (tkN T n r.1) r.2.1 mk 0 N (jsF cs3 es) r'.2) := by
      refine Tm_suc (fun k => by rw [y_X5_aimAll]) ?_
      exact c_aimAll (cs := cs3) (Nat.le_refl _) (by omega) es 0 cs3 τ3 _ (by omega) (by omega) jc3 l1 rfl (Sy_z s3)
    refine Tm_op t6 (fun r7 z7 => ?_)
    have s7 := Zy_s s3 z7 (Nat.le_refl _)
    have lf := jsF_l es cs3
    have jg := jsF_g es cs3 jc3
    obtain ⟨ty, jt⟩ := IfX_end (cs2 := jsF cs3 es) ix (by omega) (fun i hi hn hw => by rw [(jg i).2 hn]; exact h1 i hi hw) (fun i hi => by rw [(jg i).1 hi, l3]) (fun i hi => by rw [(jg i).2 (h3 i hi)]; exact h2 i hi)
    refine Tm_some (Zfin s7 ⟨jsF cs3 es, js, ns, s7.1.1, s7.2.1, s7.2.2, Stm_w ty (by unfold bdO; omega) (Nat.le_refl _), jt, ⟨?_, lns, ix.2.2.2.2⟩, ?_, lv⟩)
    · rw [lf, l3]
      show 2 * cs.length ≤ 7 * (tkN T n r.1 - q) + 2
      omega
    · show q < tkN T n r.1
      omega
  refine Tm_suc (fun k => fi_5 k _ _ _) ?_
  refine zt_closes (kk := 38) (C := True) s1 (by decide) rfl (Or.inr ⟨k38, trivial⟩) (fun τ2 ret2 n1 n2 _ s2 xk2 => ?_)
  rcases l2 with ⟨e1, e2⟩ | ⟨h, e1, e2⟩
  · refine Tm_yes e2 ?_
    exact b6 τ2 _ _ cs s2 rfl ix.2.1 (fun i _ _ => rfl) (fun i z => by rw [e1] at z; cases z) (fun i z => by rw [e1] at z; cases z)
  · rw [e1] at ix
    have hh := (IfX_go ix 0 []).1
    rw [e2]
    refine Tm_no (n_mn (by omega)) ?_
    refine Tm_oP (Zy_pp s2) (Tm_oP (Zy_pp s2) ?_)
    have es2 : τ2.1 (fP b 1) = nI (N + cs.length) := s2.1.1.2.1.1
    refine Tm_op (c_aim (op := 4) (x := 0) (h := h) (Sy_z s2) (Nat.le_refl _) hh.1 (by decide) (ix.2.2.2.1 h rfl) rfl rfl) (fun r3 z3 => ?_)
    have ew : (lI (lI (lB lZ 0 b) 1 (nI (N + h))) 2 (τ2.1 (fP b 1))).1 2 - (lI (lI (lB lZ 0 b) 1 (nI (N + h))) 2 (τ2.1 (fP b 1))).1 1 = nI (cs.length - h) := by
      show τ2.1 (fP b 1) - nI (N + h) = _
      rw [es2, n_sub (by omega) (by omega)]
      exact congrArg nI (by omega)
    have z3' : Sy T n b u al τ2 tb.length N mk 0 0 tb o (tkN T n r.1) r.2.1 mk 0 N (cs.set h (em 4 (nI (cs.length - h)))) r3.2 := by rw [← ew]; exact z3
    have s3 := Zy_s s2 z3' (Nat.le_refl _)
    have ls : (cs.set h (em 4 (nI (cs.length - h)))).length = cs.length := List.length_set
    refine b6 r3.2 _ _ (cs.set h (em 4 (nI (cs.length - h)))) s3 ls (JsC_set es cs h (fun i hi z => hh.2.1 (z ▸ hi)) ix.2.1) (fun i hi hn => ?_) (fun i z => ?_) (fun i z => ?_)
    · rw [gd_set, if_neg (fun y => hn (by rw [e1, y.1]))]
    · rw [e1] at z; cases z
      rw [gd_set, if_pos ⟨rfl, hh.1⟩]
    · rw [e1] at z; cases z
      exact hh.2.1
theorem n_ss1 {N a h : Nat} (h1 : h ≤ a) (h2 : N + a < 2147483648) : nI (N + a) - nI (N + h) = nI (a - h) := by
  rw [n_sub (by omega) (by omega)]
  exact congrArg nI (by omega)
/-- what comes behind the branches -/
def KIf (T : Nat → Int32) (n : Nat) (MD : Nat → Nat → Nat) (fK : Nat) (E : En) (lp o b0 : Nat) (r : ST) : SR := hb (if tkK T n r.1 = 42 then hT T n r.1 (fun q2 => hb (GS T n MD fK 0 E lp (o + 1) q2 r.2.1 (nI b0) 0 0 r.2.2.2.2.1 r.2.2.2.2.2) (fun t => some (Sum.inr (t.1, t.2.1, 0, 0, bSet (bNode t.2.2.2.2.1 33 (-2) (hd t.2.2.2.1) 0) 9 r.2.2.2.1 (nI t.2.2.2.2.1.1), t.2.2.2.2.2)))) else some (Sum.inr r)) (fun t => hE T n t.1 (fun q3 => some (Sum.inr (q3, t.2.1, 0, b0, t.2.2.2.2.1, t.2.2.2.2.2))))
/-- what an if stands in -/
def IfC (T : Nat → Int32) (n : Nat) (E : En) (b : Bool) (u al : Nat) (gl : Nat × (Nat → Nat → Prop)) (Vm : Nat → Prop) (Pc : Nat → Nat → Prop) (MD : Nat → Nat → Nat) (tb : List Ent) (lp : Nat) (lo : Option Nat) (o mk w N q v d : Nat) (σ : CS) : Prop := CxS n E b u al gl Vm Pc MD tb lp lo σ ∧ BdB n o q v mk N w tb.length ∧ 4 * (20 - (o + 1)) + 1 ≤ d ∧ o < 20
theorem c_ifElse {fK : Nat} {r : ST} {y : Fl ST} (pb : PBk T n b u al MD fK) (hq : r.1 ≤ n) (hv : r.2.1 ≤ 60) (hs : r.2.2.2.2.2.1 ≤ 400) (hB1 : 1 ≤ r.2.2.2.2.1.1) (hG : KIf T n MD fK E lp o b0 r = some y) : ∃ z, SemS T n y z ∧ ∀ (d : Nat) (gl : Nat × (Nat → Nat → Prop)) (Pc : Nat → Nat → Prop) (Vm : Nat → Prop) (tb : List Ent) (mk N w q v st0 h a1 a2 : Nat) (lo : Option Nat) (qh : Int32) (σ τ : CS) (L : LV), IfC T n E b u al gl Vm Pc MD tb lp lo o mk w N q v d σ → IfSt T n b u al gl Pc Vm σ a1 a2 tb o mk w lo qh N q v st0 (some h) (r.1, r.2.1, r.2.2.2.2.2.1) L τ → Tm (fun k => f_F3 k (d + 1) 2 4 L τ) (ZPo b u tb.length N mk z (fun r _ τ => S1W T n b u al gl Pc Vm tb o mk N q v w st0 lo qh (bdO o v) r τ) σ a1 a2) := by
  unfold KIf at hG
  by_cases k42 : tkK T n r.1 = 42
  case neg =>
    rw [if_neg k42] at hG
    refine ⟨lbZ T n (Sum.inr (r.1, r.2.1, r.2.2.2.2.2.1)), hE_z (x := Sum.inr r) (Or.inr ⟨_, rfl, Or.inr ⟨r, rfl, rfl, rfl, rfl⟩⟩) hG, fun d gl Pc Vm tb mk N w q v st0 h a1 a2 lo qh σ τ L ic hi => ?_⟩
    have kv : ∃ sz, QS T n b u al tb (o + 1) r.1 r.2.1 mk 0 sz τ := by
      obtain ⟨cs, js, es, ns, s1, _⟩ := hi
      exact ⟨_, s1.1.1⟩
    obtain ⟨sz, kv⟩ := kv
    refine Tm_suc (fun k => fi_4 k _ _ _) ?_
    refine Tm_no (fun z => k42 ((lx_k (kk := 42) kv (by decide)).1 z)) ?_
    exact c_ifEnd hi ic.1.1.2.2.2.2 ic.2.1.1 ic.2.2.2
  rw [if_pos k42] at hG
  have tb1 := tkN_b T n r.1 hq
  have g1 := tb1.2.2.2 (by omega)
  -- the jump to the end; the next branch begins
  have go : ∀ (d : Nat) (gl : Nat × (Nat → Nat → Prop)) (Pc : Nat → Nat → Prop) (Vm : Nat → Prop) (tb : List Ent) (mk N w q v st0 h a1 a2 : Nat) (lo : Option Nat) (qh : Int32) (σ τ : CS) (L : LV) (zF : Fl (Nat × Nat × Nat)), IfC T n E b u al gl Vm Pc MD tb lp lo o mk w N q v d σ → IfSt T n b u al gl Pc Vm σ a1 a2 tb o mk w lo qh N q v st0 (some h) (r.1, r.2.1, r.2.2.2.2.2.1) L τ → (∀ (τ2 : CS) (n1 n2 : Nat) (cs : List Int32) (js es : List Nat) (ns : Nat), Zy T n b u al σ tb.length N mk n1 n2 tb (o + 1) r.1 r.2.1 mk w r.2.2.2.2.2.1 lo (hdQ N qh js) N (cs.set h (em 4 (nI (cs.length + 1 - h))) ++ [em 3 (nI (jsH N es))]) τ2 → IfX u gl Pc Vm w N lo qh (bdO (o + 1) v) ns js es (some h) cs → 2 * cs.length ≤ 7 * (r.1 - q) → ns + st0 ≤ r.2.2.2.2.2.1 + 1 → es.length ≤ r.1 → q < r.1 → v ≤ r.2.1 → Tm (fun k => ox (f_X2_advance k 0 lZ τ2) (fun r7 => of (d + 1) (fun e8 => ox (f_F3 k e8 0 0 lZ r7.2.1) (fun r8 => f_F3 k (d + 1) 2 5 (lI (lI L 1 (nI (N + cs.length))) 2 ((-1))) r8.2.1)))) (ZPo b u tb.length N mk zF (fun r _ τ => S1W T n b u al gl Pc Vm tb o mk N q v w st0 lo qh (bdO o v) r τ) σ n1 n2)) → Tm (fun k => f_F3 k (d + 1) 2 4 L τ) (ZPo b u tb.length N mk zF (fun r _ τ => S1W T n b u al gl Pc Vm tb o mk N q v w st0 lo qh (bdO o v) r τ) σ a1 a2) := by
    intro d gl Pc Vm tb mk N w q v st0 h a1 a2 lo qh σ τ L zF ic hi cont
    obtain ⟨cs, js, es, ns, s1, ix, ⟨ln, lns, les⟩, ⟨lq, lv⟩, l1, l2⟩ := hi
    have ln' : 2 * cs.length ≤ 7 * (r.1 - q) := ln
    have lq' : q < r.1 := lq
    have n10 := ic.1.1.2.2.2.2
    have hN := ic.2.1.1
    have l2' : L.1 2 = nI (N + h) := by
      rcases l2 with ⟨e, _⟩ | ⟨h', e, e2⟩
      · cases e
      · cases e; exact e2
    have hh := (IfX_go ix 0 []).1
    refine Tm_suc (fun k => fi_4 k _ _ _) ?_
    refine Tm_yes ((lx_k (kk := 42) s1.1.1 (by decide)).2 k42) ?_
    refine Tm_oP (Zy_pp s1) ?_
    rw [l1, l2']
    refine zt_emit (op := 3) s1 rfl rfl (by omega) (fun τ2 n1 n2 s2 xk2 => ?_)
    refine Tm_oP (Zy_pp s2) (Tm_oP (Zy_pp s2) ?_)
    have s2' : Zy T n b u al σ tb.length N mk (a1 + n1) (a2 + n2) tb (o + 1) r.1 r.2.1 mk w r.2.2.2.2.2.1 lo (hdQ N qh js) N (cs ++ [em 3 (nI (jsH N es))]) τ2 := s2
    have le : (cs ++ [em 3 (nI (jsH N es))]).length = cs.length + 1 := by rw [List.length_append]; rfl
    have es2 : τ2.1 (fP b 1) = nI (N + (cs.length + 1)) := by have z := s2'.1.1.2.1.1; rw [le] at z; exact z
    refine Tm_op (c_aim (op := 4) (x := 0) (h := h) (Sy_z s2') (Nat.le_refl _) (by rw [le]; omega) (by decide) (by rw [gd_l hh.1]; exact ix.2.2.2.1 h rfl) rfl rfl) (fun r3 z3 => ?_)
    have ew : (lI (lI (lB lZ 0 b) 1 (nI (N + h))) 2 (τ2.1 (fP b 1))).1 2 - (lI (lI (lB lZ 0 b) 1 (nI (N + h))) 2 (τ2.1 (fP b 1))).1 1 = nI (cs.length + 1 - h) := by
      show τ2.1 (fP b 1) - nI (N + h) = _
      rw [es2]; exact n_ss1 (by omega) (by omega)
    have z3' : Sy T n b u al τ2 tb.length N mk 0 0 tb (o + 1) r.1 r.2.1 mk 0 N (cs.set h (em 4 (nI (cs.length + 1 - h))) ++ [em 3 (nI (jsH N es))]) r3.2 := by
      rw [← set_l _ _ _ hh.1, ← ew]; exact z3
    have s3 := Zy_s s2' z3' (Nat.le_refl _)
    exact cont r3.2 _ _ cs js es ns s3 ix ln lns les lq lv
  have hG2 := hG
  unfold hT at hG2
  by_cases w1 : tkK T n (tkN T n r.1) = 0
  · rw [if_pos w1] at hG2
    refine ⟨Sum.inl (1, tkN T n r.1), Or.inl ⟨_, rfl, (Option.some.inj hG2).symm⟩, fun d gl Pc Vm tb mk N w q v st0 h a1 a2 lo qh σ τ L ic hi => go d gl Pc Vm tb mk N w q v st0 h a1 a2 lo qh σ τ L (Sum.inl (1, tkN T n r.1)) ic hi (fun τ2 n1 n2 cs js es ns s2 ix ln lns les lq lv => ?_)⟩
    exact zt_adv (C := False) s2 (Or.inl ⟨w1, rfl⟩) (fun _ _ _ _ c _ _ => c.elim)
  rw [if_neg w1] at hG2
  have gz : ∃ x, GS T n MD fK 0 E lp (o + 1) (tkN T n r.1) r.2.1 (nI b0) 0 0 r.2.2.2.2.1 r.2.2.2.2.2 = some x := by
    rcases hb_any hG2 with ⟨yf, y1, _⟩ | ⟨_, y1, _⟩
    · rcases hb_any y1 with ⟨yf, y2, _⟩ | ⟨_, y2, _⟩
      · exact ⟨_, y2⟩
      · exact ⟨_, y2⟩
    · rcases hb_any y1 with ⟨yf, y2, _⟩ | ⟨_, y2, _⟩
      · exact ⟨_, y2⟩
      · exact ⟨_, y2⟩
  obtain ⟨x, hx⟩ := gz
  have hG3 : hb (some x) (fun t => hE T n t.1 (fun q3 => some (Sum.inr (q3, t.2.1, 0, b0, bSet (bNode t.2.2.2.2.1 33 (-2) (hd t.2.2.2.1) 0) 9 r.2.2.2.1 (nI t.2.2.2.2.1.1), t.2.2.2.2.2)))) = some y := by
    have z : hb (hb (GS T n MD fK 0 E lp (o + 1) (tkN T n r.1) r.2.1 (nI b0) 0 0 r.2.2.2.2.1 r.2.2.2.2.2) (fun t => some (Sum.inr (t.1, t.2.1, 0, 0, bSet (bNode t.2.2.2.2.1 33 (-2) (hd t.2.2.2.1) 0) 9 r.2.2.2.1 (nI t.2.2.2.2.1.1), t.2.2.2.2.2)))) (fun t => hE T n t.1 (fun q3 => some (Sum.inr (q3, t.2.1, 0, b0, t.2.2.2.2.1, t.2.2.2.2.2)))) = some y := hG2
    rw [hx] at z
    cases x with
    | inl yf => exact z
    | inr t => exact z
  obtain ⟨z, bz, run⟩ := pb E lp (o + 1) (tkN T n r.1) r.2.1 (nI b0) 0 0 _ _ x tb1.2.1 hv hs hB1 hx
  refine ⟨lbZ T n z, hE_z bz hG3, fun d gl Pc Vm tb mk N w q v st0 h a1 a2 lo qh σ τ L ic hi => go d gl Pc Vm tb mk N w q v st0 h a1 a2 lo qh σ τ L _ ic hi (fun τ2 n1 n2 cs js es ns s2 ix ln lns les lq lv => ?_)⟩
  obtain ⟨cx, ⟨bd1, bd2, bd3, bd4⟩, hd, ho⟩ := ic
  have n10 := cx.1.2.2.2.2
  have ls : (cs.set h (em 4 (nI (cs.length + 1 - h))) ++ [em 3 (nI (jsH N es))]).length = cs.length + 1 := by rw [List.length_append, List.length_set]; rfl
  refine zt_adv (C := True) s2 (Or.inr ⟨w1, trivial⟩) (fun τ3 ret3 n3 n4 _ s3 xk3 => ?_)
  refine Tm_d ?_
  have go3 := tk_go s3.1.1
  have bdb : BdB n (o + 1) (tkN T n r.1) r.2.1 mk (N + (cs.set h (em 4 (nI (cs.length + 1 - h))) ++ [em 3 (nI (jsH N es))]).length) w tb.length := ⟨by rw [ls]; omega, by omega, by omega, by omega⟩
  refine zt_callZ (C := True) s3 (run d gl Pc Vm tb mk _ w lo (hdQ N qh js) τ3 lZ s3.1.1 s3.2.2 (CxS_k cx s3.1.2.1) bdb hd) ?_
  cases z with
  | inl yf => exact Or.inl ⟨_, rfl, rfl⟩
  | inr t =>
    refine Or.inr ⟨t, rfl, trivial, fun τ4 ret4 n5 n6 hr zk4 hc4 => ?_⟩
    obtain ⟨bo, qb, nb, r1, r2, r3, r4, r5, ⟨r6, r6', r6''⟩, r7, r8⟩ := hr
    have s4 := Zy_ca (ll := bo) s3 r1 zk4 hc4 r2 (Nat.le_refl _) (Nat.le_refl _) r3
    have go4 := tk_go s4.1.1
    rw [ls] at r4 r5
    have r4' := Stm_w r4 (Bd' := bdO (o + 1) v) (by unfold bdO; omega) (Nat.le_refl _)
    obtain ⟨ix2, hd2⟩ := IfX_l ix r4' r5 r6''
    have ea : cs.set h (em 4 (nI (cs.length + 1 - h))) ++ [em 3 (nI (jsH N es))] ++ bo = cs.set h (em 4 (nI (cs.length + 1 - h))) ++ (em 3 (nI (jsH N es)) :: bo) := by rw [List.append_assoc]; rfl
    have s4' : Zy T n b u al σ tb.length N mk (n1 + n3 + n5) (n2 + n4 + n6) tb (o + 1) t.1 t.2.1 mk w t.2.2 lo (hdQ N qh (shQ (cs.length + 1) qb ++ js)) N (cs.set h (em 4 (nI (cs.length + 1 - h))) ++ (em 3 (nI (jsH N es)) :: bo)) τ4 := by
      have z := s4
      rw [ls] at z
      rw [hd2, ← ea]; exact z
    have lf : (cs.set h (em 4 (nI (cs.length + 1 - h))) ++ (em 3 (nI (jsH N es)) :: bo)).length = cs.length + 1 + bo.length := by rw [← ea, List.length_append, ls]
    refine c_ifEnd (ow := none) (r := t) ⟨_, _, cs.length :: es, _, s4', ix2, ⟨by rw [lf]; omega, by omega, by show es.length + 1 ≤ t.1; omega⟩, ⟨by omega, by omega⟩, rfl, Or.inl ⟨rfl, rfl⟩⟩ n10 bd1 ho
end CXU
end JnS505
section JnS506
/-! The class: ifs are read, their branches one behind another. -/
section CXV
variable {σ σ' σ0 τ τ' τ0 : CS} {L : LV} {b : Bool} {T : Nat → Int32} {n q q' u al o v mk mk' p sz sz' szB szE nc nc0 sz0 mk0 a1 a2 m kk f e s0 ow a t0 g D w st w' st' M nm deep vv np lp N Bd ns nb k d P h st0 b0 it : Nat} {y qh qh' y0 y1 wd x0 x1 x3 : Int32} {l l' cs cs' cs2 ll lt lt0 co bo : List Int32} {tb : List Ent} {E : En} {gl : Nat × (Nat → Nat → Prop)} {Vm : Nat → Prop} {Pc : Nat → Nat → Prop} {MD : Nat → Nat → Nat} {md : Nat → Nat} {bt : BT} {ks qs qs' qa qb js es qsI : List Nat} {lo lo' : Option Nat} {s : SB}
/-- then, a branch's statements, and on -/
def ifT (d : Nat) (L : LV) (x1 x3 : Int32) (τ : CS) (k : Nat) : Option RS := ox (f_X5_expect k 0 (lI lZ 1 40) τ) (fun r1 => oP (sPp r1.2.1) (fun b2 => ox (f_X7_emit__P k 0 (lI (lI (lB lZ 0 b2) 1 4) 2 0) r1.2.1) (fun r3 => of d (fun e4 => ox (f_F3 k e4 0 0 lZ r3.2.1) (fun r4 => f_F3 k d 2 3 (lI (lI (lI L 1 x1) 2 r3.1.2) 3 x3) r4.2.1)))))
/-- how an if stands before a then -/
def IfP (T : Nat → Int32) (n : Nat) (b : Bool) (u al : Nat) (gl : Nat × (Nat → Nat → Prop)) (Pc : Nat → Nat → Prop) (Vm : Nat → Prop) (σ : CS) (a1 a2 : Nat) (tb : List Ent) (o mk w : Nat) (lo : Option Nat) (qh : Int32) (N q v st0 cq cv st : Nat) (x1 : Int32) (τ : CS) : Prop := ∃ (cs : List Int32) (qh0 : Int32) (es : List Nat) (n1 : Nat), Zy T n b u al σ tb.length N mk a1 a2 tb (o + 1) cq cv mk w st lo qh0 N cs τ ∧ (∀ (bo : List Int32) (qb : List Nat) (nb : Nat), Stm u gl Pc Vm w (N + (cs.length + 1)) lo (bdO (o + 1) v) nb qb bo → JsT (N + (cs.length + 1)) bo qh0 qb → qb.length ≤ lqN lo nb → ∃ js, IfX u gl Pc Vm w N lo qh (bdO (o + 1) v) (n1 + nb) js es (some cs.length) (cs ++ (em 4 0 :: bo)) ∧ hdQ N qh js = hdQ (N + (cs.length + 1)) qh0 qb) ∧ (2 * cs.length ≤ 7 * (cq - q) ∧ n1 + st0 ≤ st + 1 ∧ es.length ≤ cq) ∧ (q < cq ∧ v ≤ cv) ∧ x1 = nI (jsH N es)
theorem c_ifBr {z1 zF : Fl (Nat × Nat × Nat)} {cq cv : Nat} (ic : IfC T n E b u al gl Vm Pc MD tb lp lo o mk w N q v d σ) (ip : IfP T n b u al gl Pc Vm σ a1 a2 tb o mk w lo qh N q v st0 cq cv st x1 τ) (k40 : tkK T n cq = 40 ∧ ¬ tkK T n (tkN T n cq) = 0) (run : ∀ (mk N w : Nat) (lo : Option Nat) (qh : Int32) (σ : CS), QS T n b u al tb (o + 1) (tkN T n cq) cv mk 0 N σ → ZF b u w st lo qh σ → CxS n E b u al gl Vm Pc MD tb lp lo σ → BdB n (o + 1) (tkN T n cq) cv mk N w tb.length → Tm (fun k => f_F3 k d 0 0 lZ σ) (ZPo b u tb.length N mk z1 (fun r _ τ => BlR T n b u al gl Pc Vm tb (o + 1) mk N (tkN T n cq) cv w st lo qh r τ) σ 0 0)) (h0 : ∀ ye, z1 = Sum.inl ye → zF = Sum.inl ye) (hs : ∀ (r : Nat × Nat × Nat), z1 = Sum.inr r → ∀ (τ' : CS) (L' : LV) (n1 n2 h : Nat), IfSt T n b u al gl Pc Vm σ n1 n2 tb o mk w lo qh N q v st0 (some h) r L' τ' → L'.1 3 = x3 → cq < r.1 → Tm (fun k => f_F3 k (d + 1) 2 3 L' τ') (ZPo b u tb.length N mk zF (fun r _ τ => S1W T n b u al gl Pc Vm tb o mk N q v w st0 lo qh (bdO o v) r τ) σ n1 n2)) : Tm (fun k => ifT (d + 1) L x1 x3 τ k) (ZPo b u tb.length N mk zF (fun r _ τ => S1W T n b u al gl Pc Vm tb o mk N q v w st0 lo qh (bdO o v) r τ) σ a1 a2) := by
  obtain ⟨cs, qh0, es, n0, s1, ix, ⟨ln, lns, les⟩, ⟨lq, lv⟩, l1⟩ := ip
  obtain ⟨cx, ⟨bd1, bd2, bd3, bd4⟩, hd, ho⟩ := ic
  have n10 := cx.1.2.2.2.2
  have go := tk_go s1.1.1
  have g2 := go.2.2 (by omega)
  unfold ifT
  refine zt_expect (kk := 40) (C := True) s1 (by decide) rfl (Or.inr ⟨k40, trivial⟩) (fun τ2 ret2 n1 n2 _ s2 xk2 => ?_)
  refine Tm_oP (Zy_pp s2) ?_
  refine zt_emit (op := 4) s2 rfl rfl (by omega) (fun τ3 n3 n4 s3 xk3 => ?_)
  have s3' : Zy T n b u al σ tb.length N mk (a1 + n1 + n3) (a2 + n2 + n4) tb (o + 1) (tkN T n cq) cv mk w st lo qh0 N (cs ++ [em 4 0]) τ3 := s3
  have ls : (cs ++ [em 4 0]).length = cs.length + 1 := by rw [List.length_append]; rfl
  have go3 := tk_go s3'.1.1
  refine Tm_d ?_
  have bdb : BdB n (o + 1) (tkN T n cq) cv mk (N + (cs ++ [em 4 0]).length) w tb.length := ⟨by rw [ls]; omega, by omega, by omega, by omega⟩
  refine zt_callZ (C := True) s3' (run mk _ w lo qh0 τ3 s3'.1.1 s3'.2.2 (CxS_k cx s3'.1.2.1) bdb) ?_
  cases z1 with
  | inl yf => exact Or.inl ⟨_, rfl, h0 _ rfl⟩
  | inr t =>
    refine Or.inr ⟨t, rfl, trivial, fun τ4 ret4 n5 n6 hr zk4 hc4 => ?_⟩
    obtain ⟨bo, qb, nb, r1, r2, r3, r4, r5, ⟨r6, r6', r6''⟩, r7, r8⟩ := hr
    have s4 := Zy_ca (ll := bo) s3' r1 zk4 hc4 r2 (Nat.le_refl _) (Nat.le_refl _) r3
    have go4 := tk_go s4.1.1
    rw [ls] at r4 r5
    have r4' := Stm_w r4 (Bd' := bdO (o + 1) v) (by unfold bdO; omega) (Nat.le_refl _)
    obtain ⟨js, ix2, hd2⟩ := ix bo qb nb r4' r5 r6''
    have ea : cs ++ [em 4 0] ++ bo = cs ++ (em 4 0 :: bo) := by rw [List.append_assoc]; rfl
    have s4' : Zy T n b u al σ tb.length N mk (a1 + n1 + n3 + n5) (a2 + n2 + n4 + n6) tb (o + 1) t.1 t.2.1 mk w t.2.2 lo (hdQ N qh js) N (cs ++ (em 4 0 :: bo)) τ4 := by
      have z := s4
      rw [ls] at z
      rw [hd2, ← ea]; exact z
    have lf : (cs ++ (em 4 0 :: bo)).length = cs.length + 1 + bo.length := by rw [← ea, List.length_append, ls]
    exact hs t rfl τ4 _ _ _ cs.length ⟨_, _, es, _, s4', ix2, ⟨by rw [lf]; omega, by omega, by omega⟩, ⟨by omega, by omega⟩, l1, Or.inr ⟨cs.length, rfl, rfl⟩⟩ rfl (by omega)
/-- branches, as the grammar has them, from a then on -/
def PI3 (T : Nat → Int32) (n : Nat) (b : Bool) (u al : Nat) (MD : Nat → Nat → Nat) (f : Nat) : Prop := ∀ (fK : Nat) (E : En) (lp o b0 i cq cv : Nat) (bc : BT) (b3 : ST → BT) (s : SB) (y : Fl ST), PBk T n b u al MD fK → cq ≤ n → cv ≤ 60 → s.1 ≤ 400 → 1 ≤ bc.1 → (∀ t : ST, 1 ≤ (b3 t).1) → hb (hW T n 40 cq (fun q2 => hb (GS T n MD f 0 E lp (o + 1) q2 cv (nI i) 0 0 bc s) (fun t => if tkK T n t.1 = 41 then hT T n t.1 (fun q3 => GS T n MD f 3 E lp (o + 1) q3 t.2.1 0 i t.2.2.2.2.1.1 (b3 t) t.2.2.2.2.2) else some (Sum.inr (t.1, t.2.1, 0, t.2.2.2.2.1.1, b3 t, t.2.2.2.2.2))))) (KIf T n MD fK E lp o b0) = some y → ∃ z, SemS T n y z ∧ ∀ (d : Nat) (gl : Nat × (Nat → Nat → Prop)) (Pc : Nat → Nat → Prop) (Vm : Nat → Prop) (tb : List Ent) (mk N w q v st0 a1 a2 it : Nat) (lo : Option Nat) (qh x1 : Int32) (σ τ : CS) (L : LV), IfC T n E b u al gl Vm Pc MD tb lp lo o mk w N q v d σ → IfP T n b u al gl Pc Vm σ a1 a2 tb o mk w lo qh N q v st0 cq cv s.1 x1 τ → it ≤ cq → Tm (fun k => ifT (d + 1) L x1 (nI it) τ k) (ZPo b u tb.length N mk z (fun r _ τ => S1W T n b u al gl Pc Vm tb o mk N q v w st0 lo qh (bdO o v) r τ) σ a1 a2)
/-- elseif: up to its condition -/
theorem c_ifEx {r : Nat × Nat × Nat} {zF : Fl (Nat × Nat × Nat)} {y0 : Fl RT} (ic : IfC T n E b u al gl Vm Pc MD tb lp lo o mk w N q v d σ) (hi : IfSt T n b u al gl Pc Vm σ a1 a2 tb o mk w lo qh N q v st0 (some h) r L τ) (l3 : L.1 3 = nI it) (hit : it < r.1) (k41 : tkK T n r.1 = 41) (hN : tkK T n (tkN T n r.1) = 0 → zF = Sum.inl (1, tkN T n r.1)) (hG : ¬ tkK T n (tkN T n r.1) = 0 → G T n f 0 E (o + 1) (tkN T n r.1) r.2.1 0 0 0 0 bt = some y0) (h0 : ∀ ye, y0 = Sum.inl ye → zF = Sum.inl ye) (hs : ¬ tkK T n (tkN T n r.1) = 0 → ∀ (c : RT), y0 = Sum.inr c → ∀ (τ' : CS) (n1 n2 : Nat) (x1 : Int32), IfP T n b u al gl Pc Vm σ n1 n2 tb o mk w lo qh N q v st0 c.1 c.2.1 r.2.2 x1 τ' → it + 1 ≤ c.1 → Tm (fun k => ifT (d + 1) L x1 (nI (it + 1)) τ' k) (ZPo b u tb.length N mk zF (fun r _ τ => S1W T n b u al gl Pc Vm tb o mk N q v w st0 lo qh (bdO o v) r τ) σ n1 n2)) : Tm (fun k => f_F3 k (d + 1) 2 3 L τ) (ZPo b u tb.length N mk zF (fun r _ τ => S1W T n b u al gl Pc Vm tb o mk N q v w st0 lo qh (bdO o v) r τ) σ a1 a2) := by
  obtain ⟨cs, js, es, ns, s1, ix, ⟨ln, lns, les⟩, ⟨lq, lv⟩, l1, l2⟩ := hi
  obtain ⟨cx, ⟨bd1, bd2, bd3, bd4⟩, hd, ho⟩ := ic
  have n10 := cx.1.2.2.2.2
  have go := tk_go s1.1.1
  have g2 := go.2.2 (by omega)
  have l2' : L.1 2 = nI (N + h) := by
    rcases l2 with ⟨e, _⟩ | ⟨h', e, e2⟩
    · cases e
    · cases e; exact e2
  have hh := (IfX_go ix 0 []).1
  refine Tm_suc (fun k => fi_3 k _ _ _) ?_
  refine Tm_no (fun z => by rw [l3] at z; exact absurd ((n_lt (p := 32768) (q := it) (by decide) (by omega)).1 z) (by omega)) ?_
  refine Tm_yes ((lx_k (kk := 41) s1.1.1 (by decide)).2 k41) ?_
  refine Tm_oP (Zy_pp s1) ?_
  rw [l1, l2', l3, n_add1]
  refine zt_emit (op := 3) s1 rfl rfl (by omega) (fun τ2 n1 n2 s2 xk2 => ?_)
  refine Tm_oP (Zy_pp s2) (Tm_oP (Zy_pp s2) ?_)
  have s2' : Zy T n b u al σ tb.length N mk (a1 + n1) (a2 + n2) tb (o + 1) r.1 r.2.1 mk w r.2.2 lo (hdQ N qh js) N (cs ++ [em 3 (nI (jsH N es))]) τ2 := s2
  have le : (cs ++ [em 3 (nI (jsH N es))]).length = cs.length + 1 := by rw [List.length_append]; rfl
  have es2 : τ2.1 (fP b 1) = nI (N + (cs.length + 1)) := by have z := s2'.1.1.2.1.1; rw [le] at z; exact z
  refine Tm_op (c_aim (op := 4) (x := 0) (h := h) (Sy_z s2') (Nat.le_refl _) (by rw [le]; omega) (by decide) (by rw [gd_l hh.1]; exact ix.2.2.2.1 h rfl) rfl rfl) (fun r3 z3 => ?_)
  have ew : (lI (lI (lB lZ 0 b) 1 (nI (N + h))) 2 (τ2.1 (fP b 1))).1 2 - (lI (lI (lB lZ 0 b) 1 (nI (N + h))) 2 (τ2.1 (fP b 1))).1 1 = nI (cs.length + 1 - h) := by
    show τ2.1 (fP b 1) - nI (N + h) = _
    rw [es2]; exact n_ss1 (by omega) (by omega)
  have z3' : Sy T n b u al τ2 tb.length N mk 0 0 tb (o + 1) r.1 r.2.1 mk 0 N (cs.set h (em 4 (nI (cs.length + 1 - h))) ++ [em 3 (nI (jsH N es))]) r3.2 := by
    rw [← set_l _ _ _ hh.1, ← ew]; exact z3
  have s3 := Zy_s s2' z3' (Nat.le_refl _)
  have ls : (cs.set h (em 4 (nI (cs.length + 1 - h))) ++ [em 3 (nI (jsH N es))]).length = cs.length + 1 := by rw [List.length_append, List.length_set]; rfl
  by_cases w1 : tkK T n (tkN T n r.1) = 0
  · exact zt_adv (C := False) s3 (Or.inl ⟨w1, hN w1⟩) (fun _ _ _ _ c _ _ => c.elim)
  refine zt_adv (C := True) s3 (Or.inr ⟨w1, trivial⟩) (fun τ4 ret4 n3 n4 _ s4 xk4 => ?_)
  have go4 := tk_go s4.1.1
  have bdx : BdX n (o + 1) (tkN T n r.1) r.2.1 mk 0 (N + (cs.set h (em 4 (nI (cs.length + 1 - h))) ++ [em 3 (nI (jsH N es))]).length) tb.length := ⟨n10, by rw [ls]; omega, by omega, by omega, by omega⟩
  cases y0 with
  | inl yf =>
    rw [h0 _ rfl]
    exact zt_exp (C := True) s4 (EvX_z cx.1.1 s4.1.2.1) bdx rfl (hG w1) (Or.inl ⟨_, rfl, rfl⟩) (fun _ _ _ _ _ _ z => by cases z)
  | inr c =>
    refine zt_exp (C := True) s4 (EvX_z cx.1.1 s4.1.2.1) bdx rfl (hG w1) (Or.inr ⟨c, rfl, trivial⟩) (fun τ5 ret5 n5 n6 r' co hzz _ s5 xk5 sg lnc lt lvc tg => ?_)
    cases hzz
    have go5 := tk_go s5.1.1
    have ea : cs.set h (em 4 (nI (cs.length + 1 - h))) ++ [em 3 (nI (jsH N es))] ++ co = cs.set h (em 4 (nI (cs.length + 1 - h))) ++ (em 3 (nI (jsH N es)) :: co) := by rw [List.append_assoc]; rfl
    have lf : (cs.set h (em 4 (nI (cs.length + 1 - h))) ++ (em 3 (nI (jsH N es)) :: co)).length = cs.length + 1 + co.length := by rw [← ea, List.length_append, ls]
    rw [ea] at s5
    refine hs w1 c rfl τ5 _ _ _ ⟨_, hdQ N qh js, cs.length :: es, ns, s5, fun bo qb nb st jt jl => ?_, ⟨by rw [lf]; omega, lns, by show es.length + 1 ≤ c.1; omega⟩, ⟨by omega, by omega⟩, rfl⟩ (by omega)
    rw [lf] at st jt ⊢
    have ee := IfX_e ix (Sst_sg (Pc := Pc) (pre := []) sg 0) st jt jl
    refine ⟨_, ?_, ee.2⟩
    have e2 : cs.set h (em 4 (nI (cs.length + 1 - h))) ++ (em 3 (nI (jsH N es)) :: co) ++ (em 4 0 :: bo) = cs.set h (em 4 (nI (cs.length + 1 - h))) ++ (em 3 (nI (jsH N es)) :: (co ++ (em 4 0 :: bo))) := by rw [List.append_assoc]; rfl
    rw [e2]
    exact ee.1
end CXV
end JnS506
section JnS507
/-! The class: ifs are read whole. -/
section CXW
variable {σ σ' σ0 τ τ' τ0 : CS} {L : LV} {b : Bool} {T : Nat → Int32} {n q q' u al o v mk mk' p sz sz' szB szE nc nc0 sz0 mk0 a1 a2 m kk f e s0 ow a t0 g D w st w' st' M nm deep vv np lp N Bd ns nb k d P h st0 b0 it : Nat} {y qh qh' y0 y1 wd x0 x1 x3 : Int32} {l l' cs cs' cs2 ll lt lt0 co bo : List Int32} {tb : List Ent} {E : En} {gl : Nat × (Nat → Nat → Prop)} {Vm : Nat → Prop} {Pc : Nat → Nat → Prop} {MD : Nat → Nat → Nat} {md : Nat → Nat} {bt : BT} {ks qs qs' qa qb js es qsI : List Nat} {lo lo' : Option Nat} {s : SB}
/-- behind a branch there is no elseif -/
theorem c_if3n {r : Nat × Nat × Nat} {zF : Fl (Nat × Nat × Nat)} (ic : IfC T n E b u al gl Vm Pc MD tb lp lo o mk w N q v d σ) (hi : IfSt T n b u al gl Pc Vm σ a1 a2 tb o mk w lo qh N q v st0 (some h) r L τ) (l3 : L.1 3 = nI it) (hit : it < r.1) (k41 : ¬ tkK T n r.1 = 41) (t4 : Tm (fun k => f_F3 k (d + 1) 2 4 L τ) (ZPo b u tb.length N mk zF (fun r _ τ => S1W T n b u al gl Pc Vm tb o mk N q v w st0 lo qh (bdO o v) r τ) σ a1 a2)) : Tm (fun k => f_F3 k (d + 1) 2 3 L τ) (ZPo b u tb.length N mk zF (fun r _ τ => S1W T n b u al gl Pc Vm tb o mk N q v w st0 lo qh (bdO o v) r τ) σ a1 a2) := by
  have kv : ∃ sz, QS T n b u al tb (o + 1) r.1 r.2.1 mk 0 sz τ := by
    obtain ⟨cs, js, es, ns, s1, _⟩ := hi
    exact ⟨_, s1.1.1⟩
  obtain ⟨sz, kv⟩ := kv
  have n10 := ic.1.1.2.2.2.2
  have go := tk_go kv
  refine Tm_suc (fun k => fi_3 k _ _ _) ?_
  refine Tm_no (fun z => by rw [l3] at z; exact absurd ((n_lt (p := 32768) (q := it) (by decide) (by omega)).1 z) (by omega)) ?_
  exact Tm_no (fun z => k41 ((lx_k (kk := 41) kv (by decide)).1 z)) t4
theorem c_if4n {r : Nat × Nat × Nat} (ic : IfC T n E b u al gl Vm Pc MD tb lp lo o mk w N q v d σ) (hi : IfSt T n b u al gl Pc Vm σ a1 a2 tb o mk w lo qh N q v st0 (some h) r L τ) (k42 : ¬ tkK T n r.1 = 42) : Tm (fun k => f_F3 k (d + 1) 2 4 L τ) (ZPo b u tb.length N mk (lbZ T n (Sum.inr r)) (fun r _ τ => S1W T n b u al gl Pc Vm tb o mk N q v w st0 lo qh (bdO o v) r τ) σ a1 a2) := by
  have kv : ∃ sz, QS T n b u al tb (o + 1) r.1 r.2.1 mk 0 sz τ := by
    obtain ⟨cs, js, es, ns, s1, _⟩ := hi
    exact ⟨_, s1.1.1⟩
  obtain ⟨sz, kv⟩ := kv
  refine Tm_suc (fun k => fi_4 k _ _ _) ?_
  refine Tm_no (fun z => k42 ((lx_k (kk := 42) kv (by decide)).1 z)) ?_
  exact c_ifEnd hi ic.1.1.2.2.2.2 ic.2.1.1 ic.2.2.2
theorem c_ifB (f : Nat) : (∀ g, g ≤ f → PBk T n b u al MD g) → PI3 T n b u al MD f := by
  induction f using Nat.strongRecOn with
  | ind f ih =>
  intro hpb fK E lp o b0 i cq cv bc b3 s y pbK hq hv hs hB1 hb3 hG
  by_cases k40 : tkK T n cq = 40 ∧ ¬ tkK T n (tkN T n cq) = 0
  case neg =>
    refine ⟨Sum.inl (wF T n 40 cq), Or.inl ⟨_, rfl, ?_⟩, fun d gl Pc Vm tb mk N w q v st0 a1 a2 it lo qh x1 σ τ L ic ip hit => ?_⟩
    · rcases hb_any hG with ⟨yf, e1, e2⟩ | ⟨s1, e1, _⟩
      · rcases hW_any e1 with ⟨_, z⟩ | ⟨z, _⟩
        · exact e2.trans (by rw [Sum.inl.inj z])
        · exact absurd z k40
      · have z := hW_s e1
        exact absurd ⟨z.1, z.2.1⟩ k40
    · obtain ⟨cs, qh0, es, n0, s1, _⟩ := ip
      unfold ifT
      exact zt_expect (kk := 40) (C := False) s1 (by decide) rfl (Or.inl ⟨k40, rfl⟩) (fun _ _ _ _ c _ _ => c.elim)
  have tb1 := tkN_b T n cq hq
  have g1 := tb1.2.2.2 (by omega)
  have hG1 : hb (hb (GS T n MD f 0 E lp (o + 1) (tkN T n cq) cv (nI i) 0 0 bc s) (fun t => if tkK T n t.1 = 41 then hT T n t.1 (fun q3 => GS T n MD f 3 E lp (o + 1) q3 t.2.1 0 i t.2.2.2.2.1.1 (b3 t) t.2.2.2.2.2) else some (Sum.inr (t.1, t.2.1, 0, t.2.2.2.2.1.1, b3 t, t.2.2.2.2.2)))) (KIf T n MD fK E lp o b0) = some y := by
    unfold hW hT at hG
    rw [if_pos k40.1, if_neg k40.2] at hG
    exact hG
  have gz : ∃ x, GS T n MD f 0 E lp (o + 1) (tkN T n cq) cv (nI i) 0 0 bc s = some x := by
    rcases hb_any hG1 with ⟨yf, y1, _⟩ | ⟨_, y1, _⟩
    · rcases hb_any y1 with ⟨yf, y2, _⟩ | ⟨_, y2, _⟩
      · exact ⟨_, y2⟩
      · exact ⟨_, y2⟩
    · rcases hb_any y1 with ⟨yf, y2, _⟩ | ⟨_, y2, _⟩
      · exact ⟨_, y2⟩
      · exact ⟨_, y2⟩
  obtain ⟨x, hx⟩ := gz
  rw [hx] at hG1
  obtain ⟨z1, bz, run⟩ := hpb f (Nat.le_refl _) E lp (o + 1) (tkN T n cq) cv (nI i) 0 0 _ _ x tb1.2.1 hv hs hB1 hx
  rcases bz with ⟨ye, e1, e2⟩ | ⟨r, e1, e2⟩
  · rw [e2] at hG1
    refine ⟨Sum.inl ye, Or.inl ⟨_, rfl, (Option.some.inj hG1).symm⟩, fun d gl Pc Vm tb mk N w q v st0 a1 a2 it lo qh x1 σ τ L ic ip hit => ?_⟩
    exact c_ifBr (z1 := z1) ic ip k40 (fun mk N w lo qh σ h1 h2 h3 h4 => run d gl Pc Vm tb mk N w lo qh σ lZ h1 h2 h3 h4 ic.2.2.1) (fun _ z => by rw [e1] at z; cases z; rfl) (fun r z => by rw [e1] at z; cases z)
  rcases e2 with ⟨e2, e3⟩ | ⟨t, e2, e4, e5, e6⟩
  · rw [e2] at hG1
    have en : lbZ T n (Sum.inr r) = Sum.inl (2, r.1) := (if_neg (fun z => e3 (by omega))).trans (by rw [wF_n (fun z => e3 (by omega))])
    refine ⟨Sum.inl (2, r.1), Or.inl ⟨_, rfl, (Option.some.inj hG1).symm⟩, fun d gl Pc Vm tb mk N w q v st0 a1 a2 it lo qh x1 σ τ L ic ip hit => ?_⟩
    refine c_ifBr (z1 := z1) ic ip k40 (fun mk N w lo qh σ h1 h2 h3 h4 => run d gl Pc Vm tb mk N w lo qh σ lZ h1 h2 h3 h4 ic.2.2.1) (fun _ z => by rw [e1] at z; cases z) (fun r' z τ' L' n1 n2 h hi l3 hc => ?_)
    rw [e1] at z; cases z
    refine c_if3n ic hi l3 (by omega) (fun z => e3 (by omega)) ?_
    have k := c_if4n ic hi (fun z => e3 (by omega))
    rw [en] at k
    exact k
  rw [e2] at hx hG1
  have mo := (gs_mo f 0 E lp (o + 1) (tkN T n cq) cv (nI i) 0 0 bc s t 1 (by decide) tb1.2.1 hv hs hx (Nat.le_refl _) hB1 (fun _ z => absurd rfl z) (fun z => absurd z (by decide))).1
  obtain ⟨a1, a2, a3, a4, a5, a6, a7, a8, a9, a10⟩ := mo
  have er : r = (t.1, t.2.1, t.2.2.2.2.2.1) := by rw [e4, e5, e6]
  have hG2 : hb (if tkK T n t.1 = 41 then hT T n t.1 (fun q3 => GS T n MD f 3 E lp (o + 1) q3 t.2.1 0 i t.2.2.2.2.1.1 (b3 t) t.2.2.2.2.2) else some (Sum.inr (t.1, t.2.1, 0, t.2.2.2.2.1.1, b3 t, t.2.2.2.2.2))) (KIf T n MD fK E lp o b0) = some y := hG1
  by_cases k41 : tkK T n t.1 = 41
  case neg =>
    rw [if_neg k41] at hG2
    have hG3 : KIf T n MD fK E lp o b0 (t.1, t.2.1, 0, t.2.2.2.2.1.1, b3 t, t.2.2.2.2.2) = some y := hG2
    obtain ⟨z, sz, rn⟩ := c_ifElse (r := (t.1, t.2.1, 0, t.2.2.2.2.1.1, b3 t, t.2.2.2.2.2)) pbK a2 a4 a10 (hb3 t) hG3
    refine ⟨z, sz, fun d gl Pc Vm tb mk N w q v st0 a1 a2 it lo qh x1 σ τ L ic ip hit => ?_⟩
    refine c_ifBr (z1 := z1) ic ip k40 (fun mk N w lo qh σ h1 h2 h3 h4 => run d gl Pc Vm tb mk N w lo qh σ lZ h1 h2 h3 h4 ic.2.2.1) (fun _ z => by rw [e1] at z; cases z) (fun r' z τ' L' n1 n2 h hi l3 hc => ?_)
    rw [e1] at z; cases z
    rw [er] at hi hc
    exact c_if3n ic hi l3 (by omega) k41 (rn d gl Pc Vm tb mk N w q v st0 h n1 n2 lo qh σ τ' L' ic hi)
  rw [if_pos k41] at hG2
  have k41' : tkK T n r.1 = 41 := by rw [← e4]; exact k41
  by_cases w1 : tkK T n (tkN T n t.1) = 0
  · rw [hT_n w1] at hG2
    have w1' : tkK T n (tkN T n r.1) = 0 := by rw [← e4]; exact w1
    refine ⟨Sum.inl (1, tkN T n t.1), Or.inl ⟨_, rfl, (Option.some.inj hG2).symm⟩, fun d gl Pc Vm tb mk N w q v st0 a1 a2 it lo qh x1 σ τ L ic ip hit => ?_⟩
    refine c_ifBr (z1 := z1) ic ip k40 (fun mk N w lo qh σ h1 h2 h3 h4 => run d gl Pc Vm tb mk N w lo qh σ lZ h1 h2 h3 h4 ic.2.2.1) (fun _ z => by rw [e1] at z; cases z) (fun r' z τ' L' n1 n2 h hi l3 hc => ?_)
    rw [e1] at z; cases z
    exact c_ifEx (f := 0) (bt := bc) (y0 := Sum.inl (1, tkN T n t.1)) ic hi l3 (by omega) k41' (fun _ => by rw [e4]) (fun z => absurd w1' z) (fun _ z => by cases z; rfl) (fun z => absurd w1' z)
  rw [hT_y w1] at hG2
  have tb2 := tkN_b T n t.1 a2
  cases f with
  | zero => simp only [GS] at hG2; cases hG2
  | succ g =>
    have hG3 : hb (hb (if t.2.2.2.2.1.1 = 0 ∧ tkK T n (tkN T n t.1) = 63 then hT T n (tkN T n t.1) (fun q1 => some (Sum.inr (q1, t.2.1, 0, 0, b3 t, t.2.2.2.2.2))) else lb (G T n g 0 E (o + 1) (tkN T n t.1) t.2.1 0 0 0 0 (b3 t)) (fun r => some (Sum.inr (r.1, r.2.1, 0, r.2.2.2.1, r.2.2.2.2.1, t.2.2.2.2.2)))) (fun c => hW T n 40 c.1 (fun q2 => hb (GS T n MD g 0 E lp (o + 1) q2 c.2.1 (nI i) 0 0 c.2.2.2.2.1 t.2.2.2.2.2) (fun t' => if tkK T n t'.1 = 41 then hT T n t'.1 (fun q3 => GS T n MD g 3 E lp (o + 1) q3 t'.2.1 0 i t'.2.2.2.2.1.1 ((fun t' : ST => if t.2.2.2.2.1.1 = 0 then bSet (bNode t'.2.2.2.2.1 33 (if c.2.2.2.1 = 0 then -3 else nI c.2.2.2.1) (hd t'.2.2.2.1) 0) 5 i (nI t'.2.2.2.2.1.1) else bSet (bNode t'.2.2.2.2.1 33 (if c.2.2.2.1 = 0 then -3 else nI c.2.2.2.1) (hd t'.2.2.2.1) 0) 9 t.2.2.2.2.1.1 (nI t'.2.2.2.2.1.1)) t') t'.2.2.2.2.2) else some (Sum.inr (t'.1, t'.2.1, 0, t'.2.2.2.2.1.1, ((fun t' : ST => if t.2.2.2.2.1.1 = 0 then bSet (bNode t'.2.2.2.2.1 33 (if c.2.2.2.1 = 0 then -3 else nI c.2.2.2.1) (hd t'.2.2.2.1) 0) 5 i (nI t'.2.2.2.2.1.1) else bSet (bNode t'.2.2.2.2.1 33 (if c.2.2.2.1 = 0 then -3 else nI c.2.2.2.1) (hd t'.2.2.2.1) 0) 9 t.2.2.2.2.1.1 (nI t'.2.2.2.2.1.1)) t'), t'.2.2.2.2.2)))))) (KIf T n MD fK E lp o b0) = some y := hG2
    rw [if_neg (by omega)] at hG3
    have gz : ∃ x, G T n g 0 E (o + 1) (tkN T n t.1) t.2.1 0 0 0 0 (b3 t) = some x := by
      rcases hb_any hG3 with ⟨yf, y1, _⟩ | ⟨_, y1, _⟩
      · rcases hb_any y1 with ⟨yf, y2, _⟩ | ⟨_, y2, _⟩
        · rcases lb_any y2 with ⟨yf, y3, _⟩ | ⟨_, y3, _⟩
          · exact ⟨_, y3⟩
          · exact ⟨_, y3⟩
        · rcases lb_any y2 with ⟨yf, y3, _⟩ | ⟨_, y3, _⟩
          · exact ⟨_, y3⟩
          · exact ⟨_, y3⟩
      · rcases hb_any y1 with ⟨yf, y2, _⟩ | ⟨_, y2, _⟩
        · rcases lb_any y2 with ⟨yf, y3, _⟩ | ⟨_, y3, _⟩
          · exact ⟨_, y3⟩
          · exact ⟨_, y3⟩
        · rcases lb_any y2 with ⟨yf, y3, _⟩ | ⟨_, y3, _⟩
          · exact ⟨_, y3⟩
          · exact ⟨_, y3⟩
    obtain ⟨x2, hx2⟩ := gz
    rw [hx2] at hG3
    have hx2' : G T n g 0 E (o + 1) (tkN T n r.1) r.2.1 0 0 0 0 (b3 t) = some x2 := by rw [← e4, ← e5]; exact hx2
    cases x2 with
    | inl yf =>
      refine ⟨Sum.inl yf, Or.inl ⟨_, rfl, (Option.some.inj hG3).symm⟩, fun d gl Pc Vm tb mk N w q v st0 a1 a2 it lo qh x1 σ τ L ic ip hit => ?_⟩
      refine c_ifBr (z1 := z1) ic ip k40 (fun mk N w lo qh σ h1 h2 h3 h4 => run d gl Pc Vm tb mk N w lo qh σ lZ h1 h2 h3 h4 ic.2.2.1) (fun _ z => by rw [e1] at z; cases z) (fun r' z τ' L' n1 n2 h hi l3 hc => ?_)
      rw [e1] at z; cases z
      exact c_ifEx ic hi l3 (by omega) k41' (fun z => absurd (by rw [e4]; exact z) w1) (fun _ => hx2') (fun _ z => by cases z; rfl) (fun _ c z => by cases z)
    | inr c =>
      have moc := g_mo0 (bt := b3 t) tb2.2.1 a4 (hb3 t) hx2
      obtain ⟨z, sz, rn⟩ := ih g (by omega) (fun g' hg' => hpb g' (by omega)) fK E lp o b0 i c.1 c.2.1 c.2.2.2.2.1 _ t.2.2.2.2.2 y pbK moc.1.2 moc.2.1.2 a10 (by have := hb3 t; omega) (fun t' => by split <;> exact Nat.le_add_left 1 _) hG3
      refine ⟨z, sz, fun d gl Pc Vm tb mk N w q v st0 a1 a2 it lo qh x1 σ τ L ic ip hit => ?_⟩
      refine c_ifBr (z1 := z1) ic ip k40 (fun mk N w lo qh σ h1 h2 h3 h4 => run d gl Pc Vm tb mk N w lo qh σ lZ h1 h2 h3 h4 ic.2.2.1) (fun _ z => by rw [e1] at z; cases z) (fun r' z τ' L' n1 n2 h hi l3 hc => ?_)
      rw [e1] at z; cases z
      refine c_ifEx ic hi l3 (by omega) k41' (fun z => absurd (by rw [e4]; exact z) w1) (fun _ => hx2') (fun _ z => by cases z) (fun _ c' ec τ2 m1 m2 x1' ip' hi' => ?_)
      cases ec
      rw [← e6] at ip'
      exact rn d gl Pc Vm tb mk N w q v st0 m1 m2 (it + 1) lo qh x1' σ τ2 L' ic ip' hi'
/-- an if -/
theorem c_if (hpb : ∀ g, g ≤ f → PBk T n b u al MD g) : PSk T n b u al MD (f + 1) 2 2 := by
  intro E lp o q v pe i l bt s y hq hv hs hB1 ho h25 hG
  have hG' : hT T n q (fun q1 => hb (GS T n MD f 3 E lp (o + 1) q1 v 0 bt.1 0 (bNode bt 46 (-1) 0 0) s) (KIf T n MD f E lp o bt.1)) = some y := hG
  have tb1 := tkN_b T n q hq
  have g1 := tb1.2.2.2 h25
  rcases hT_any hG' with ⟨w1, w2⟩ | ⟨w1, w2⟩
  · refine ⟨Sum.inl (1, tkN T n q), Or.inl ⟨_, rfl, w2⟩, fun d gl Pc Vm tb mk N w lo qh σ L h zf hbg cx bd hd l1 => ?_⟩
    have s0 := Zy_N h zf hbg
    refine Tm_suc (fun k => fi_0 k _ _ _) ?_
    exact zt_opens (C := False) s0 (Or.inl ⟨fun z => z.2 w1, oF_b ho rfl⟩) (fun _ _ _ _ c _ _ => c.elim)
  have hq1 : tkN T n q < 2147483648 ∨ True := Or.inr trivial
  cases f with
  | zero => simp only [GS] at w2; cases w2
  | succ g =>
    have pbK := hpb (g + 1) (Nat.le_refl _)
    have pbg := c_ifB (T := T) (n := n) (b := b) (u := u) (al := al) (MD := MD) g (fun g' hg' => hpb g' (by omega))
    have hG3 : hb (hb (if 0 = 0 ∧ tkK T n (tkN T n q) = 63 then hT T n (tkN T n q) (fun q1 => some (Sum.inr (q1, v, 0, 0, bNode bt 46 (-1) 0 0, s))) else lb (G T n g 0 E (o + 1) (tkN T n q) v 0 0 0 0 (bNode bt 46 (-1) 0 0)) (fun r => some (Sum.inr (r.1, r.2.1, 0, r.2.2.2.1, r.2.2.2.2.1, s)))) (fun c => hW T n 40 c.1 (fun q2 => hb (GS T n MD g 0 E lp (o + 1) q2 c.2.1 (nI bt.1) 0 0 c.2.2.2.2.1 s) (fun t' => if tkK T n t'.1 = 41 then hT T n t'.1 (fun q3 => GS T n MD g 3 E lp (o + 1) q3 t'.2.1 0 bt.1 t'.2.2.2.2.1.1 ((fun t' : ST => bSet (bNode t'.2.2.2.2.1 33 (if c.2.2.2.1 = 0 then -3 else nI c.2.2.2.1) (hd t'.2.2.2.1) 0) 5 bt.1 (nI t'.2.2.2.2.1.1)) t') t'.2.2.2.2.2) else some (Sum.inr (t'.1, t'.2.1, 0, t'.2.2.2.2.1.1, ((fun t' : ST => bSet (bNode t'.2.2.2.2.1 33 (if c.2.2.2.1 = 0 then -3 else nI c.2.2.2.1) (hd t'.2.2.2.1) 0) 5 bt.1 (nI t'.2.2.2.2.1.1)) t'), t'.2.2.2.2.2)))))) (KIf T n MD (g + 1) E lp o bt.1) = some y := w2
    have b1 : 1 ≤ (bNode bt 46 (-1) 0 0).1 := Nat.le_add_left 1 _
    -- the way up to the then
    have opn : ∀ (d : Nat) (gl : Nat × (Nat → Nat → Prop)) (Pc : Nat → Nat → Prop) (Vm : Nat → Prop) (tb : List Ent) (mk N w : Nat) (lo : Option Nat) (qh : Int32) (σ : CS) (L : LV) (zF : Fl (Nat × Nat × Nat)), QS T n b u al tb o q v mk 0 (N + 1) σ → ZF b u w s.1 lo qh σ → cdr b σ N = em 0 (nI q) → (∀ (τ : CS) (n1 n2 : Nat), Zy T n b u al σ tb.length N mk n1 n2 tb (o + 1) (tkN T n q) v mk w s.1 lo qh N [em 0 (nI q)] τ → Tm (fun k => if τ.1 3702 = 63 then (ox (f_X2_advance k 0 lZ τ) (fun r3 => oP (sPp r3.2.1) (fun b4 => ox (f_X7_emit__P k 0 (lI (lI (lB lZ 0 b4) 1 21) 2 0) r3.2.1) (fun r5 => f_F3 k d 2 2 L r5.2.1)))) else (f_F3 k d 2 1 L τ)) (ZPo b u tb.length N mk zF (fun r _ τ => S1W T n b u al gl Pc Vm tb o mk N q v w s.1 lo qh (bdO o v) r τ) σ n1 n2)) → Tm (fun k => f_F3 k d 2 0 L σ) (ZPo b u tb.length N mk zF (fun r _ τ => S1W T n b u al gl Pc Vm tb o mk N q v w s.1 lo qh (bdO o v) r τ) σ 0 0) := by
      intro d gl Pc Vm tb mk N w lo qh σ L zF h zf hbg cont
      have s0 := Zy_N h zf hbg
      refine Tm_suc (fun k => fi_0 k _ _ _) ?_
      refine zt_opens (C := True) s0 (Or.inr ⟨⟨ho, w1⟩, trivial⟩) (fun τ1 ret1 n1 n2 _ s1 xk1 => ?_)
      have k := cont τ1 _ _ s1
      exact k
    have icf : ∀ (d : Nat) (gl : Nat × (Nat → Nat → Prop)) (Pc : Nat → Nat → Prop) (Vm : Nat → Prop) (tb : List Ent) (mk N w : Nat) (lo : Option Nat) (σ : CS), QS T n b u al tb o q v mk 0 (N + 1) σ → CxS n E b u al gl Vm Pc MD tb lp lo σ → BdB n o q v mk N w tb.length → 4 * (20 - o) ≤ d + 1 → ∃ d1, d = d1 + 1 ∧ IfC T n E b u al gl Vm Pc MD tb lp lo o mk w N q v d1 σ := fun d gl Pc Vm tb mk N w lo σ h cx bd hd => by
      have o20 := h.2.2.2.2.2.1.2
      exact ⟨d - 1, by omega, cx, bd, by omega, by omega⟩
    have ip0 : ∀ (gl : Nat × (Nat → Nat → Prop)) (Pc : Nat → Nat → Prop) (Vm : Nat → Prop) (tb : List Ent) (mk N w : Nat) (lo : Option Nat) (qh : Int32) (σ τ : CS) (n1 n2 cq cv : Nat) (co : List Int32), q < 8388608 → Zy T n b u al σ tb.length N mk n1 n2 tb (o + 1) cq cv mk w s.1 lo qh N ([em 0 (nI q)] ++ co) τ → Sst u gl Pc Vm [] 0 0 1 co → 2 * co.length ≤ 3 * (cq - tkN T n q) + 1 → tkN T n q < cq → v ≤ cv → IfP T n b u al gl Pc Vm σ n1 n2 tb o mk w lo qh N q v s.1 cq cv s.1 0 τ := fun gl Pc Vm tb mk N w lo qh σ τ n1 n2 cq cv co hq8 s1 sst ln lt lv => by
      have lco : ([em 0 (nI q)] ++ co).length = co.length + 1 := by rw [List.length_append]; show 1 + co.length = _; omega
      refine ⟨_, qh, [], 1, s1, fun bo qb nb st jt jl => ?_, ⟨by rw [lco]; omega, by omega, Nat.zero_le _⟩, ⟨by omega, lv⟩, rfl⟩
      rw [lco] at st jt ⊢
      have z := IfX_0 (q := q) sst st jt jl hq8
      rw [Nat.add_comm 1 nb]
      exact ⟨_, z.1, z.2⟩
    have i63 : ∀ {tb : List Ent} {mk sz : Nat} {τ : CS}, QS T n b u al tb (o + 1) (tkN T n q) v mk 0 sz τ → (τ.1 3702 = 63 ↔ tkK T n (tkN T n q) = 63) := fun h => lx_k (kk := 63) h (by decide)
    by_cases k63 : tkK T n (tkN T n q) = 63
    · rw [if_pos ⟨rfl, k63⟩] at hG3
      by_cases w3 : tkK T n (tkN T n (tkN T n q)) = 0
      · rw [hT_n w3] at hG3
        refine ⟨Sum.inl (1, tkN T n (tkN T n q)), Or.inl ⟨_, rfl, (Option.some.inj hG3).symm⟩, fun d gl Pc Vm tb mk N w lo qh σ L h zf hbg cx bd hd l1 => opn d gl Pc Vm tb mk N w lo qh σ L (Sum.inl (1, tkN T n (tkN T n q))) h zf hbg (fun τ n1 n2 s1 => ?_)⟩
        refine Tm_yes ((i63 s1.1.1).2 k63) ?_
        exact zt_adv (C := False) s1 (Or.inl ⟨w3, rfl⟩) (fun _ _ _ _ c _ _ => c.elim)
      rw [hT_y w3] at hG3
      have tb2 := tkN_b T n (tkN T n q) tb1.2.1
      have g2 := tb2.2.2.2 (by omega)
      obtain ⟨z, sz, rn⟩ := pbg (g + 1) E lp o bt.1 bt.1 (tkN T n (tkN T n q)) v (bNode bt 46 (-1) 0 0) _ s y pbK tb2.2.1 hv hs b1 (fun t' => Nat.le_add_left 1 _) hG3
      refine ⟨z, sz, fun d gl Pc Vm tb mk N w lo qh σ L h zf hbg cx bd hd l1 => opn d gl Pc Vm tb mk N w lo qh σ L z h zf hbg (fun τ n1 n2 s1 => ?_)⟩
      obtain ⟨d1, ed, ic⟩ := icf d gl Pc Vm tb mk N w lo σ h cx bd hd
      have n10 := cx.1.2.2.2.2
      have bd1 := bd.1
      refine Tm_yes ((i63 s1.1.1).2 k63) ?_
      refine zt_adv (C := True) s1 (Or.inr ⟨w3, trivial⟩) (fun τ2 ret2 n3 n4 _ s2 xk2 => ?_)
      refine Tm_oP (Zy_pp s2) ?_
      refine zt_emit (op := 21) s2 rfl rfl (by show N + 1 + 1 ≤ 36864; omega) (fun τ3 n5 n6 s3 xk3 => ?_)
      subst ed
      refine Tm_suc (fun k => fi_2 k _ _ _) ?_
      exact rn d1 gl Pc Vm tb mk N w q v s.1 _ _ 0 lo qh 0 σ τ3 L ic (ip0 gl Pc Vm tb mk N w lo qh σ τ3 _ _ _ _ [em 21 0] (by omega) s3 (Sst_i Is_po (Nat.le_refl _) (Nat.le_refl _)) (by show 2 * 1 ≤ _; omega) (by omega) (Nat.le_refl _)) (Nat.zero_le _)
    · rw [if_neg (fun z => k63 z.2)] at hG3
      have gz : ∃ x, G T n g 0 E (o + 1) (tkN T n q) v 0 0 0 0 (bNode bt 46 (-1) 0 0) = some x := by
        rcases hb_any hG3 with ⟨yf, y1, _⟩ | ⟨_, y1, _⟩
        · rcases hb_any y1 with ⟨yf, y2, _⟩ | ⟨_, y2, _⟩
          · rcases lb_any y2 with ⟨yf, y3, _⟩ | ⟨_, y3, _⟩
            · exact ⟨_, y3⟩
            · exact ⟨_, y3⟩
          · rcases lb_any y2 with ⟨yf, y3, _⟩ | ⟨_, y3, _⟩
            · exact ⟨_, y3⟩
            · exact ⟨_, y3⟩
        · rcases hb_any y1 with ⟨yf, y2, _⟩ | ⟨_, y2, _⟩
          · rcases lb_any y2 with ⟨yf, y3, _⟩ | ⟨_, y3, _⟩
            · exact ⟨_, y3⟩
            · exact ⟨_, y3⟩
          · rcases lb_any y2 with ⟨yf, y3, _⟩ | ⟨_, y3, _⟩
            · exact ⟨_, y3⟩
            · exact ⟨_, y3⟩
      obtain ⟨x2, hx2⟩ := gz
      rw [hx2] at hG3
      cases x2 with
      | inl yf =>
        refine ⟨Sum.inl yf, Or.inl ⟨_, rfl, (Option.some.inj hG3).symm⟩, fun d gl Pc Vm tb mk N w lo qh σ L h zf hbg cx bd hd l1 => opn d gl Pc Vm tb mk N w lo qh σ L (Sum.inl yf) h zf hbg (fun τ n1 n2 s1 => ?_)⟩
        obtain ⟨bd1, bd2, bd3, bd4⟩ := bd
        have bdx : BdX n (o + 1) (tkN T n q) v mk 0 (N + [em 0 (nI q)].length) tb.length := ⟨cx.1.2.2.2.2, by show 2 * (N + 1) + _ + _ ≤ _; omega, by omega, bd3, by omega⟩
        refine Tm_no (fun z => k63 ((i63 s1.1.1).1 z)) ?_
        refine Tm_suc (fun k => fi_1 k _ _ _) ?_
        exact zt_exp (C := True) s1 (EvX_z cx.1.1 s1.1.2.1) bdx rfl hx2 (Or.inl ⟨_, rfl, rfl⟩) (fun _ _ _ _ _ _ z => by cases z)
      | inr c =>
        have moc := g_mo0 (bt := bNode bt 46 (-1) 0 0) tb1.2.1 hv b1 hx2
        obtain ⟨z, sz, rn⟩ := pbg (g + 1) E lp o bt.1 bt.1 c.1 c.2.1 c.2.2.2.2.1 _ s y pbK moc.1.2 moc.2.1.2 hs (by omega) (fun t' => Nat.le_add_left 1 _) hG3
        refine ⟨z, sz, fun d gl Pc Vm tb mk N w lo qh σ L h zf hbg cx bd hd l1 => opn d gl Pc Vm tb mk N w lo qh σ L z h zf hbg (fun τ n1 n2 s1 => ?_)⟩
        obtain ⟨d1, ed, ic⟩ := icf d gl Pc Vm tb mk N w lo σ h cx bd hd
        obtain ⟨bd1, bd2, bd3, bd4⟩ := bd
        have n10 := cx.1.2.2.2.2
        have bdx : BdX n (o + 1) (tkN T n q) v mk 0 (N + [em 0 (nI q)].length) tb.length := ⟨n10, by show 2 * (N + 1) + _ + _ ≤ _; omega, by omega, bd3, by omega⟩
        refine Tm_no (fun z => k63 ((i63 s1.1.1).1 z)) ?_
        refine Tm_suc (fun k => fi_1 k _ _ _) ?_
        refine zt_exp (C := True) s1 (EvX_z cx.1.1 s1.1.2.1) bdx rfl hx2 (Or.inr ⟨c, rfl, trivial⟩) (fun τ2 ret2 n3 n4 r' co hzz _ s2 xk2 sg ln lt lv tg => ?_)
        cases hzz
        subst ed
        refine Tm_suc (fun k => fi_2 k _ _ _) ?_
        exact rn d1 gl Pc Vm tb mk N w q v s.1 _ _ 0 lo qh 0 σ τ2 L ic (ip0 gl Pc Vm tb mk N w lo qh σ τ2 _ _ _ _ co (by omega) s2 (Sst_sg sg 0) ln lt lv) (Nat.zero_le _)
end CXW
end JnS507
section JnS508
/-! The class: one statement is read. -/
section CXX
variable {σ σ' σ0 τ τ' τ0 : CS} {L : LV} {b : Bool} {T : Nat → Int32} {n q q' u al o v mk mk' p sz sz' szB szE nc nc0 sz0 mk0 a1 a2 m kk f e s0 ow a t0 g D w st w' st' M nm deep vv np lp N Bd ns nb k d P h st0 b0 it : Nat} {y qh qh' y0 y1 wd x0 x1 x3 : Int32} {l l' cs cs' cs2 ll lt lt0 co bo : List Int32} {tb : List Ent} {E : En} {gl : Nat × (Nat → Nat → Prop)} {Vm : Nat → Prop} {Pc : Nat → Nat → Prop} {MD : Nat → Nat → Nat} {md : Nat → Nat} {bt : BT} {ks qs qs' qa qb js es qsI : List Nat} {lo lo' : Option Nat} {s : SB}
/-- a statement and its ; -/
def seZ (T : Nat → Int32) (n : Nat) (z : Fl (Nat × Nat × Nat)) : Fl (Nat × Nat × Nat) := match z with
  | Sum.inl yf => Sum.inl yf
  | Sum.inr r => if tkK T n r.1 = 13 ∧ ¬ tkK T n (tkN T n r.1) = 0 then Sum.inr (tkN T n r.1, r.2.1, r.2.2) else Sum.inl (wF T n 13 r.1)
def SeT (y : Fl ST) (z : Fl (Nat × Nat × Nat)) : Prop := (∃ ye, z = Sum.inl ye ∧ y = Sum.inl ye) ∨ ∃ (r : Nat × Nat × Nat) (nd : Nat) (bb : BT) (ss : SB), z = Sum.inr r ∧ y = Sum.inr (r.1, r.2.1, 0, nd, bb, ss) ∧ ss.1 = r.2.2
theorem SeT_of {y : Fl ST} {z : Fl (Nat × Nat × Nat)} (h : SemS T n y z) : SeT y (seZ T n z) := by
  rcases h with ⟨yf, e1, e2⟩ | ⟨r, nd, bb, ss, e1, e2, e3⟩
  · rw [e1]; exact Or.inl ⟨_, rfl, e2⟩
  · rw [e1]
    show SeT y (if tkK T n r.1 = 13 ∧ ¬ tkK T n (tkN T n r.1) = 0 then Sum.inr (tkN T n r.1, r.2.1, r.2.2) else Sum.inl (wF T n 13 r.1))
    rcases hW_any e2 with ⟨w1, w2⟩ | ⟨w1, w2⟩
    · rw [if_neg w1]; exact Or.inl ⟨_, rfl, w2⟩
    · rw [if_pos w1]; exact Or.inr ⟨_, nd, bb, ss, rfl, (Option.some.inj w2).symm, e3⟩
theorem Sem_S {x : Fl RT} {z : Fl (Nat × Nat)} {y : Fl ST} (h : Sem T n x z) (hl : lb (some x) (lif s) = some y) : SemS T n y (mF (fun r => (r.1, r.2, s.1)) z) := by
  rcases h with ⟨yf, e1, e2⟩ | ⟨r, e, bb, e1, e2⟩
  · rw [e1]; rw [e2] at hl
    exact Or.inl ⟨_, rfl, (Option.some.inj hl).symm⟩
  · rw [e1]
    refine Or.inr ⟨(r.1, r.2, s.1), e, bb, s, rfl, ?_, rfl⟩
    show hW T n 13 r.1 (fun q3 => some (Sum.inr (q3, r.2, 0, e, bb, s))) = some y
    rcases gW_any e2 with ⟨w1, w2⟩ | ⟨w1, w2⟩
    · rw [w2] at hl
      rw [← hl]
      unfold hW hT
      by_cases c : tkK T n r.1 = 13
      · rw [if_pos c, if_pos (Classical.byContradiction fun z => w1 ⟨c, z⟩), wF_y c]; rfl
      · rw [if_neg c, wF_n c]; rfl
    · rw [← Option.some.inj w2] at hl
      unfold hW hT
      rw [if_pos w1.1, if_neg w1.2, ← hl]
      rfl
theorem lb_S {x0 : RG} {y : Fl ST} (hl : lb x0 (lif s) = some y) : ∃ x, x0 = some x ∧ lb (some x) (lif s) = some y := by
  rcases lb_any hl with ⟨yf, y1, _⟩ | ⟨_, y1, _⟩
  · exact ⟨_, y1, by rw [y1] at hl; exact hl⟩
  · exact ⟨_, y1, by rw [y1] at hl; exact hl⟩
/-- behind a statement and its ; -/
def S1T (T : Nat → Int32) (n : Nat) (b : Bool) (u al : Nat) (gl : Nat × (Nat → Nat → Prop)) (Pc : Nat → Nat → Prop) (Vm : Nat → Prop) (tb : List Ent) (o mk N q v w st : Nat) (lo : Option Nat) (qh : Int32) (Bd : Nat) (r : Nat × Nat × Nat) (τ : CS) : Prop := ∃ (cs : List Int32) (qs : List Nat) (ns : Nat), QS T n b u al tb o r.1 r.2.1 mk 0 (N + cs.length) τ ∧ (∀ i, i < cs.length → cdr b τ (N + i) = cs.getD i 0) ∧ ZF b u w r.2.2 lo (hdQ N qh qs) τ ∧ Stm u gl Pc Vm w N lo Bd ns qs cs ∧ JsT N cs qh qs ∧ (2 * cs.length ≤ 7 * (r.1 - q) ∧ ns + st ≤ r.2.2 + 1 ∧ qs.length ≤ lqN lo ns) ∧ q < r.1 ∧ v ≤ r.2.1
theorem ZPo_m {α β : Type} {S : α → Int32 → CS → Prop} {z : Fl β} {R : β → Int32 → CS → Prop} {g : β → α} {r : RS} (h : ZPo b u nc sz mk z R σ a1 a2 r) (hs : sz' ≤ sz) (hm : ∀ t y τ, R t y τ → ZK b u nc sz mk σ τ → S (g t) y τ) : ZPo b u nc sz' mk (mF g z) S σ a1 a2 r := by
  refine ⟨fun t e => ?_, fun ye e => ?_, h.2.2.1, h.2.2.2.1, ZK_w h.2.2.2.2 hs⟩
  · cases z with
    | inl yf => cases e
    | inr t0 =>
      have e' : g t0 = t := Sum.inr.inj e
      have y := h.1 t0 rfl
      rw [← e']
      exact ⟨y.1, hm _ _ _ y.2 h.2.2.2.2⟩
  · cases z with
    | inl yf => cases e; exact h.2.1 _ rfl
    | inr t0 => cases e
theorem st_0 (k d : Nat) (L : LV) (σ : CS) : f_F3 (k + 1) d 4 0 L σ = (if ((σ.1 3702)) = (2 : Int32) then (f_F3 k d 4 1 L σ) else (if ((σ.1 3702)) = (14 : Int32) then (f_F3 k d 4 2 L σ) else (if ((σ.1 3702)) = (39 : Int32) then (f_F3 k d 4 3 L σ) else (if ((σ.1 3702)) = (43 : Int32) then (f_F3 k d 4 4 L σ) else (if ((σ.1 3702)) = (45 : Int32) then (f_F3 k d 4 5 L σ) else (if ((σ.1 3702)) = (52 : Int32) then (f_F3 k d 4 6 L σ) else (f_F3 k d 4 7 L σ))))))) := rfl
theorem st_1 (k d : Nat) (L : LV) (σ : CS) : f_F3 (k + 1) d 4 1 L σ = (ox (f_X5_nameStatement k 0 lZ σ) (fun r1 => f_F3 k d 4 8 L r1.2.1)) := rfl
theorem st_2 (k d : Nat) (L : LV) (σ : CS) : f_F3 (k + 1) d 4 2 L σ = (ox (f_X5_holesStatement k 0 lZ σ) (fun r1 => f_F3 k d 4 8 L r1.2.1)) := rfl
theorem st_3 (k d : Nat) (L : LV) (σ : CS) : f_F3 (k + 1) d 4 3 L σ = (of d (fun e1 => ox (f_F3 k e1 2 0 lZ σ) (fun r1 => f_F3 k d 4 8 L r1.2.1))) := rfl
theorem st_4 (k d : Nat) (L : LV) (σ : CS) : f_F3 (k + 1) d 4 4 L σ = (of d (fun e1 => ox (f_F3 k e1 5 0 (lI lZ 1 ((L.1 1))) σ) (fun r1 => f_F3 k d 4 8 L r1.2.1))) := rfl
theorem st_5 (k d : Nat) (L : LV) (σ : CS) : f_F3 (k + 1) d 4 5 L σ = (of d (fun e1 => ox (f_F3 k e1 1 0 lZ σ) (fun r1 => f_F3 k d 4 8 L r1.2.1))) := rfl
theorem st_6 (k d : Nat) (L : LV) (σ : CS) : f_F3 (k + 1) d 4 6 L σ = (ox (f_X2_advance k 0 lZ σ) (fun r1 => ox (f_X5_want k 0 (lI lZ 1 10) r1.2.1) (fun r2 => ox (f_X5_opens k 0 lZ r2.2.1) (fun r3 => oP (sPp r3.2.1) (fun b4 => ox (f_X5_exps k 0 lZ r3.2.1) (fun r5 => ox (f_X7_emit__P k 0 (lI (lI (lB lZ 0 b4) 1 208) 2 r5.1.2) r5.2.1) (fun r6 => ox (f_X5_closes k 0 (lI lZ 1 11) r6.2.1) (fun r7 => f_F3 k d 4 8 L r7.2.1)))))))) := rfl
theorem st_7 (k d : Nat) (L : LV) (σ : CS) : f_F3 (k + 1) d 4 7 L σ = (ox (f_X5_plainStatement k 0 lZ σ) (fun r1 => f_F3 k d 4 8 L r1.2.1)) := rfl
theorem st_8 (k d : Nat) (L : LV) (σ : CS) : f_F3 (k + 1) d 4 8 L σ = (ox (f_X5_expect k 0 (lI lZ 1 17) σ) (fun r1 => some ((0, 0), r1.2.1, (0, 0)))) := rfl
theorem st_fin {g : Nat → Option RS} {z : Fl (Nat × Nat × Nat)} (t : Tm g (ZPo b u tb.length N mk z (fun r _ τ => S1W T n b u al gl Pc Vm tb o mk N q v w st lo qh Bd r τ) σ 0 0)) : Tm (fun k => ox (g k) (fun r1 => f_F3 k d 4 8 L r1.2.1)) (ZPo b u tb.length N mk (seZ T n z) (fun r _ τ => S1T T n b u al gl Pc Vm tb o mk N q v w st lo qh Bd r τ) σ 0 0) := by
  refine zt_callO (C := True) t ?_
  cases z with
  | inl yf => exact Or.inl ⟨_, rfl, rfl⟩
  | inr r =>
    refine Or.inr ⟨r, rfl, trivial, fun τ2 ret2 n1 n2 hr zk hc => ?_⟩
    obtain ⟨cs, qs, ns, r1, r2, r3, r4, r5, ⟨r6, r6', r6''⟩, r7, r8⟩ := hr
    have s2 : Zy T n b u al σ tb.length N mk (0 + n1) (0 + n2) tb o r.1 r.2.1 mk w r.2.2 lo (hdQ N qh qs) N cs τ2 := ⟨⟨r1, zk, hc, Nat.le_refl _, Nat.le_add_right _ _, Nat.le_refl _⟩, r2, r3⟩
    have go := tk_go r1
    show Tm (fun k => f_F3 k d 4 8 L τ2) (ZPo b u tb.length N mk (if tkK T n r.1 = 13 ∧ ¬ tkK T n (tkN T n r.1) = 0 then Sum.inr (tkN T n r.1, r.2.1, r.2.2) else Sum.inl (wF T n 13 r.1)) (fun r _ τ => S1T T n b u al gl Pc Vm tb o mk N q v w st lo qh Bd r τ) σ (0 + n1) (0 + n2))
    refine Tm_suc (fun k => st_8 k _ _ _) ?_
    by_cases k13 : tkK T n r.1 = 13 ∧ ¬ tkK T n (tkN T n r.1) = 0
    · rw [if_pos k13]
      have g2 := go.2.2 (by omega)
      refine zt_expect (kk := 13) (C := True) s2 (by decide) rfl (Or.inr ⟨k13, trivial⟩) (fun τ3 ret3 n3 n4 _ s3 xk3 => ?_)
      exact Tm_some (Zfin s3 ⟨cs, qs, ns, s3.1.1, s3.2.1, s3.2.2, r4, r5, ⟨by show 2 * cs.length ≤ 7 * (tkN T n r.1 - q); omega, r6', r6''⟩, by show q < tkN T n r.1; omega, r8⟩)
    · rw [if_neg k13]
      exact zt_expect (kk := 13) (C := False) s2 (by decide) rfl (Or.inl ⟨k13, rfl⟩) (fun _ _ _ _ c _ _ => c.elim)
/-- a statement that is whole in itself -/
theorem st_one {g : Nat → Option RS} {z : Fl (Nat × Nat)} (hb : cdr b σ N = em 0 (nI q)) (hp : q < 8388608) (t : Tm g (ZPo b u tb.length (N + 1) mk z (fun r _ τ => SzR T n b u al gl Pc Vm tb o mk (N + 1) q v w st lo qh r τ) σ 0 0)) : Tm g (ZPo b u tb.length N mk (mF (fun r => (r.1, r.2, st)) z) (fun r _ τ => S1W T n b u al gl Pc Vm tb o mk N q v w st lo qh Bd r τ) σ 0 0) := by
  refine Tm_mono t (fun r hr => ZPo_m hr (Nat.le_add_right _ _) (fun t y τ ht zk => ?_))
  obtain ⟨⟨ll, x, r1, r2, ⟨r3, r3'⟩, r4, r5, r6⟩, zf⟩ := ht
  refine S1W_of ⟨ll, [], 1, r1, r2, zf, Stm_s r3 r3' hp, trivial, ⟨by show 2 * ll.length ≤ 7 * (t.1 - q) + 0; omega, by show 1 + st ≤ st + 1; omega, Nat.zero_le _⟩, r5, r6⟩ ?_
  rw [(zk.2.2.2.2.2.1 N (by omega)).1]
  exact hb
end CXX
end JnS508
section JnS509
/-! The class: prints are read; one statement of any kind is read. -/
section CXY
variable {σ σ' σ0 τ τ' τ0 : CS} {L : LV} {b : Bool} {T : Nat → Int32} {n q q' u al o v mk mk' p sz sz' szB szE nc nc0 sz0 mk0 a1 a2 m kk f e s0 ow a t0 g D w st w' st' M nm deep vv np lp N Bd ns nb k d P h st0 b0 it : Nat} {y qh qh' y0 y1 wd x0 x1 x3 : Int32} {l l' cs cs' cs2 ll lt lt0 co bo : List Int32} {tb : List Ent} {E : En} {gl : Nat × (Nat → Nat → Prop)} {Vm : Nat → Prop} {Pc : Nat → Nat → Prop} {MD : Nat → Nat → Nat} {md : Nat → Nat} {bt : BT} {ks qs qs' qa qb js es qsI : List Nat} {lo lo' : Option Nat} {s : SB}
/-- print( .. ) up to its closing, as a piece: the rest of block 6 -/
theorem c_printS {x : Fl RT} (h : QS T n b u al tb o q v mk 0 (N + 1) σ) (zf : ZF b u w st lo qh σ) (hbg : cdr b σ N = em 0 (nI q)) (sx : StX n E b u al gl Vm Pc MD tb σ) (bd : BdS n o q v mk (N + 1) tb.length) (hk : tkK T n q = 52) (hG : gT T n q (fun q1 => gP0 T n f E o 52 q1 v bt) = some x) : Tm (fun k => f_F3 k d 4 6 L σ) (ZPo b u tb.length N mk (seZ T n (mF (fun r => (r.1, r.2, st)) (zq x))) (fun r _ τ => S1T T n b u al gl Pc Vm tb o mk N q v w st lo qh Bd r τ) σ 0 0) := by
  have s0 := Zy_N h zf hbg
  have go := tk_go h
  have g1 := go.2.2 (by omega)
  obtain ⟨bd1, bd2, bd3⟩ := bd
  obtain ⟨ev, pr, pe, n3, n10⟩ := sx
  refine Tm_suc (fun k => st_6 k _ _ _) ?_
  rcases gT_any hG with ⟨w1, w2⟩ | ⟨w1, w2⟩
  · rw [w2]
    exact zt_adv (C := False) s0 (Or.inl ⟨w1, rfl⟩) (fun _ _ _ _ c _ _ => c.elim)
  refine zt_adv (C := True) s0 (Or.inr ⟨w1, trivial⟩) (fun τ1 ret1 n1 n2 _ s1 xk1 => ?_)
  have go1 := tk_go s1.1.1
  unfold gP0 at w2
  rw [if_neg (by decide), if_pos rfl] at w2
  by_cases k6 : tkK T n (tkN T n q) = 6
  case neg =>
    rw [if_neg k6] at w2
    rw [← Option.some.inj w2]
    exact zt_want (kk := 6) (C := False) s1 (by decide) rfl (Or.inl ⟨k6, rfl⟩) (fun _ _ _ c _ => c.elim)
  rw [if_pos k6] at w2
  have g2 := go1.2.2 (by omega)
  refine zt_want (kk := 6) (C := True) s1 (by decide) rfl (Or.inr ⟨k6, trivial⟩) (fun ret2 n3' n4 _ s2 => ?_)
  rcases gO_any w2 with ⟨w3, w4⟩ | ⟨w3, w4⟩
  · rw [w4]
    exact zt_opens (C := False) s2 (Or.inl ⟨fun z => z.1 w3, oF_a w3 rfl⟩) (fun _ _ _ _ c _ _ => c.elim)
  rcases gT_any w4 with ⟨w5, w6⟩ | ⟨w5, w6⟩
  · rw [w6]
    exact zt_opens (C := False) s2 (Or.inl ⟨fun z => z.2 w5, oF_b w3 rfl⟩) (fun _ _ _ _ c _ _ => c.elim)
  refine zt_opens (C := True) s2 (Or.inr ⟨⟨w3, w5⟩, trivial⟩) (fun τ3 ret3 n5 n6 _ s3 xk3 => ?_)
  refine Tm_oP (Zy_pp s3) ?_
  have go3 := tk_go s3.1.1
  have ev3 := EvX_z ev s3.1.2.1
  have bdx : BdX n (o + 1) (tkN T n (tkN T n q)) v mk 0 (N + [em 0 (nI q)].length) tb.length := ⟨n10, by show 2 * (N + 1) + _ + _ ≤ _; omega, by omega, bd3, by omega⟩
  rcases gb_any w6 with ⟨yf, w7, w8⟩ | ⟨r, w7, w8⟩
  · rw [w8]
    exact zt_call (C := True) s3 (c_expsP (e := 399) (fun f' _ => px_all f' 399) s3.1.1 ev3 bdx w7 (by omega)) (Or.inl ⟨_, rfl, rfl⟩)
  refine zt_call (C := True) s3 (c_expsP (e := 399) (fun f' _ => px_all f' 399) s3.1.1 ev3 bdx w7 (by omega)) (Or.inr ⟨r, rfl, trivial, fun τ4 ret4 n7 n8 hr xk4 hc4 => ?_⟩)
  obtain ⟨c, co, ec, r1, r2, sg, ln, lt, lv⟩ := hr
  have s4 := Zy_cl s3 r1 xk4 hc4 r2 s3.1.2.2.2.1 s3.1.2.2.2.2.2
  have go4 := tk_go s4.1.1
  have lco : ([em 0 (nI q)] ++ co).length = co.length + 1 := by rw [List.length_append]; show 1 + co.length = _; omega
  have cl := sg.1
  rw [ec]
  refine zt_emit (op := 208) s4 rfl rfl (by rw [lco]; omega) (fun τ5 n9 n10' s5 xk5 => ?_)
  have s5' : Zy T n b u al σ tb.length N mk (0 + n1 + n3' + n5 + n7 + n9) (0 + n2 + n4 + n6 + n8 + n10') tb (o + 1) r.1 r.2.1 mk w st lo qh N ([em 0 (nI q)] ++ co ++ [em 208 (nI c)]) τ5 := s5
  have ea : [em 0 (nI q)] ++ co ++ [em 208 (nI c)] = em 0 (nI q) :: (co ++ [em 208 (nI c)]) := by rw [List.append_assoc]; rfl
  rw [ea] at s5'
  have ll2 : (co ++ [em 208 (nI c)]).length = co.length + 1 := by rw [List.length_append]; rfl
  have ty : Sse u gl Pc Vm [] 0 0 0 (co ++ [em 208 (nI c)]) := by
    have z := Sst_sg (Pc := Pc) (pre := []) sg 0
    have z2 := Sse_i (pre := []) (Is_pt (u := u) (gl := gl) (Pc := Pc) (Vm := Vm) (pre := []) (n := 0) (k := c) (by omega)) (Nat.le_refl _) (by omega)
    exact Sse_seq z z2 (by omega)
  rcases gW_any w8 with ⟨w9, wa⟩ | ⟨w9, wa⟩
  · rw [wa]
    exact zt_closes (kk := 7) (C := False) s5' (by decide) rfl (Or.inl ⟨w9, rfl⟩) (fun _ _ _ _ c _ _ => c.elim)
  refine zt_closes (kk := 7) (C := True) s5' (by decide) rfl (Or.inr ⟨w9, trivial⟩) (fun τ6 ret6 m1 m2 _ s6 xk6 => ?_)
  have go6 := tk_go s6.1.1
  have g6 := go4.2.2 (by omega)
  rw [← Option.some.inj wa]
  show Tm (fun k => f_F3 k d 4 8 L τ6) (ZPo b u tb.length N mk (if tkK T n (tkN T n r.1) = 13 ∧ ¬ tkK T n (tkN T n (tkN T n r.1)) = 0 then Sum.inr (tkN T n (tkN T n r.1), r.2.1, st) else Sum.inl (wF T n 13 (tkN T n r.1))) _ σ _ _)
  refine Tm_suc (fun k => st_8 k _ _ _) ?_
  by_cases k13 : tkK T n (tkN T n r.1) = 13 ∧ ¬ tkK T n (tkN T n (tkN T n r.1)) = 0
  · rw [if_pos k13]
    have g7 := go6.2.2 (by omega)
    refine zt_expect (kk := 13) (C := True) s6 (by decide) rfl (Or.inr ⟨k13, trivial⟩) (fun τ7 ret7 m3 m4 _ s7 xk7 => ?_)
    refine Tm_some (Zfin s7 ⟨_, [], 1, s7.1.1, s7.2.1, s7.2.2, Stm_s ty (by omega) (by omega), trivial, ⟨?_, by show 1 + st ≤ st + 1; omega, Nat.zero_le _⟩, ?_, lv⟩)
    · rw [List.length_cons, ll2]
      show 2 * (co.length + 1 + 1) ≤ 7 * (tkN T n (tkN T n r.1) - q)
      omega
    · show q < tkN T n (tkN T n r.1)
      omega
  · rw [if_neg k13]
    exact zt_expect (kk := 13) (C := False) s6 (by decide) rfl (Or.inl ⟨k13, rfl⟩) (fun _ _ _ _ c _ _ => c.elim)
/-- what checkStatement refuses, as the grammar has it -/
def BadG (k o lp : Nat) (E : En) : Prop := (isOp k ∧ o = 20) ∨ ((k = 49 ∨ k = 50) ∧ lp = 0) ∨ (k = 51 ∧ E.2.2.2.1 = 0)
/-- a statement of any kind -/
def gXs (T : Nat → Int32) (n f : Nat) (MD : Nat → Nat → Nat) (E : En) (lp o q v : Nat) (b : BT) (s : SB) : SR := if tkK T n q = 26 then lb (gBg T n f MD E o q v b) (lif s) else if tkK T n q = 10 then lb (gPa T n f E o q v b) (lif s) else if tkK T n q = 39 then GS T n MD f 2 E lp o q v 0 0 0 b s else if tkK T n q = 43 then GS T n MD f 4 E lp o q v 0 0 0 b s else if tkK T n q = 45 then GS T n MD f 5 E lp o q v 0 0 0 b s else lb (gSm T n f lp E o q v b) (lif s)
def P1k (T : Nat → Int32) (n : Nat) (b : Bool) (u al : Nat) (MD : Nat → Nat → Nat) (f : Nat) : Prop := ∀ (E : En) (lp o q v : Nat) (bt : BT) (s : SB) (y : Fl ST), q ≤ n → v ≤ 60 → s.1 ≤ 400 → 1 ≤ bt.1 → isSt (tkK T n q) → ¬ BadG (tkK T n q) o lp E → gXs T n f MD E lp o q v bt s = some y → ∃ z : Fl (Nat × Nat × Nat), SeT y z ∧ ∀ (d : Nat) (gl : Nat × (Nat → Nat → Prop)) (Pc : Nat → Nat → Prop) (Vm : Nat → Prop) (tb : List Ent) (mk N w : Nat) (lo : Option Nat) (qh : Int32) (σ : CS) (L : LV), QS T n b u al tb o q v mk 0 (N + 1) σ → ZF b u w s.1 lo qh σ → cdr b σ N = em 0 (nI q) → CxS n E b u al gl Vm Pc MD tb lp lo σ → BdB n o q v mk N w tb.length → 4 * (20 - o) ≤ d → L.1 1 = nI N → Tm (fun k => f_F3 k d 4 0 L σ) (ZPo b u tb.length N mk z (fun r _ τ => S1T T n b u al gl Pc Vm tb o mk N q v w s.1 lo qh (bdO o v) r τ) σ 0 0)
theorem c_stmt (p2 : PSk T n b u al MD f 2 2) (p4 : PSk T n b u al MD f 4 5) (p5 : PSk T n b u al MD f 5 1) : P1k T n b u al MD f := by
  intro E lp o q v bt s y hq hv hs hB1 hst hbad hG
  unfold gXs at hG
  have ck : ∀ {tb : List Ent} {mk sz : Nat} {σ : CS}, QS T n b u al tb o q v mk 0 sz σ → ∀ j, tkV j → (σ.1 3702 = cKd j ↔ tkK T n q = j) := fun h j hj => lx_k h hj
  by_cases k26 : tkK T n q = 26
  · rw [if_pos k26] at hG
    obtain ⟨x, hx, hl⟩ := lb_S hG
    obtain ⟨z0, hz, sm⟩ := gBg_0 hx
    refine ⟨_, SeT_of (Sem_S sm hl), fun d gl Pc Vm tb mk N w lo qh σ L h zf hbg cx bd hd l1 => ?_⟩
    have n10 := cx.1.2.2.2.2
    obtain ⟨bd1, bd2, bd3, bd4⟩ := bd
    refine Tm_suc (fun k => st_0 k _ _ _) ?_
    refine Tm_yes ((ck h 26 (by decide)).2 k26) ?_
    refine Tm_suc (fun k => st_1 k _ _ _) ?_
    exact st_fin (st_one hbg (by omega) (c_nameSt h zf cx.1 ⟨by omega, bd2, bd3⟩ k26 hz))
  rw [if_neg k26] at hG
  by_cases k10 : tkK T n q = 10
  · rw [if_pos k10] at hG
    obtain ⟨x, hx, hl⟩ := lb_S hG
    obtain ⟨z0, hz, sm⟩ := gPa_0 hx
    refine ⟨_, SeT_of (Sem_S sm hl), fun d gl Pc Vm tb mk N w lo qh σ L h zf hbg cx bd hd l1 => ?_⟩
    have n10 := cx.1.2.2.2.2
    obtain ⟨bd1, bd2, bd3, bd4⟩ := bd
    refine Tm_suc (fun k => st_0 k _ _ _) ?_
    refine Tm_no (fun z => k26 ((ck h 26 (by decide)).1 z)) (Tm_yes ((ck h 10 (by decide)).2 k10) ?_)
    refine Tm_suc (fun k => st_2 k _ _ _) ?_
    refine st_fin (st_one hbg (by omega) (Tm_mono (c_holes (Pc := Pc) h cx.1.1 cx.1.2.2.2.1 n10 bd2 (by omega) bd3 k10 hz) (fun r hr => ?_)))
    have hr' := ZPo_of hr
    exact ⟨fun t e => ⟨(hr.1 t e).1, (hr.1 t e).2, ZF_k zf hr.2.2.2.2⟩, hr'.2⟩
  rw [if_neg k10] at hG
  have e1 : ∀ d : Nat, 4 * (20 - o) ≤ d → ¬ o = 20 → o ≤ 20 → ∃ d1, d = d1 + 1 ∧ 4 * (20 - o) ≤ d1 + 1 := fun d h1 h2 h3 => ⟨d - 1, by omega, by omega⟩
  by_cases k39 : tkK T n q = 39
  · rw [if_pos k39] at hG
    have ho : ¬ o = 20 := fun z => hbad (Or.inl ⟨Or.inl k39, z⟩)
    obtain ⟨z, sm, run⟩ := p2 E lp o q v 0 0 0 bt s y hq hv hs hB1 ho (by omega) hG
    refine ⟨_, SeT_of sm, fun d gl Pc Vm tb mk N w lo qh σ L h zf hbg cx bd hd l1 => ?_⟩
    obtain ⟨d1, ed, hd1⟩ := e1 d hd ho h.2.2.2.2.2.1.2
    subst ed
    refine Tm_suc (fun k => st_0 k _ _ _) ?_
    refine Tm_no (fun z => k26 ((ck h 26 (by decide)).1 z)) (Tm_no (fun z => k10 ((ck h 10 (by decide)).1 z)) (Tm_yes ((ck h 39 (by decide)).2 k39) ?_))
    refine Tm_suc (fun k => st_3 k _ _ _) ?_
    refine Tm_d ?_
    exact st_fin (d := d1 + 1) (L := L) (run d1 gl Pc Vm tb mk N w lo qh σ lZ h zf hbg cx bd hd1 (fun z => absurd z (by decide)))
  rw [if_neg k39] at hG
  by_cases k43 : tkK T n q = 43
  · rw [if_pos k43] at hG
    have ho : ¬ o = 20 := fun z => hbad (Or.inl ⟨Or.inr (Or.inl k43), z⟩)
    obtain ⟨z, sm, run⟩ := p4 E lp o q v 0 0 0 bt s y hq hv hs hB1 ho (by omega) hG
    refine ⟨_, SeT_of sm, fun d gl Pc Vm tb mk N w lo qh σ L h zf hbg cx bd hd l1 => ?_⟩
    obtain ⟨d1, ed, hd1⟩ := e1 d hd ho h.2.2.2.2.2.1.2
    subst ed
    refine Tm_suc (fun k => st_0 k _ _ _) ?_
    refine Tm_no (fun z => k26 ((ck h 26 (by decide)).1 z)) (Tm_no (fun z => k10 ((ck h 10 (by decide)).1 z)) (Tm_no (fun z => k39 ((ck h 39 (by decide)).1 z)) (Tm_yes ((ck h 43 (by decide)).2 k43) ?_)))
    refine Tm_suc (fun k => st_4 k _ _ _) ?_
    refine Tm_d ?_
    exact st_fin (d := d1 + 1) (L := L) (run d1 gl Pc Vm tb mk N w lo qh σ _ h zf hbg cx bd hd1 (fun _ => l1))
  rw [if_neg k43] at hG
  by_cases k45 : tkK T n q = 45
  · rw [if_pos k45] at hG
    have ho : ¬ o = 20 := fun z => hbad (Or.inl ⟨Or.inr (Or.inr (Or.inl k45)), z⟩)
    obtain ⟨z, sm, run⟩ := p5 E lp o q v 0 0 0 bt s y hq hv hs hB1 ho (by omega) hG
    refine ⟨_, SeT_of sm, fun d gl Pc Vm tb mk N w lo qh σ L h zf hbg cx bd hd l1 => ?_⟩
    obtain ⟨d1, ed, hd1⟩ := e1 d hd ho h.2.2.2.2.2.1.2
    subst ed
    refine Tm_suc (fun k => st_0 k _ _ _) ?_
    refine Tm_no (fun z => k26 ((ck h 26 (by decide)).1 z)) (Tm_no (fun z => k10 ((ck h 10 (by decide)).1 z)) (Tm_no (fun z => k39 ((ck h 39 (by decide)).1 z)) (Tm_no (fun z => k43 ((ck h 43 (by decide)).1 z)) (Tm_yes ((ck h 45 (by decide)).2 k45) ?_))))
    refine Tm_suc (fun k => st_5 k _ _ _) ?_
    refine Tm_d ?_
    exact st_fin (d := d1 + 1) (L := L) (run d1 gl Pc Vm tb mk N w lo qh σ lZ h zf hbg cx bd hd1 (fun z => absurd z (by decide)))
  rw [if_neg k45] at hG
  have kr : 49 ≤ tkK T n q ∧ tkK T n q ≤ 56 := by
    rcases hst with z | z | z | z | z | z
    · exact absurd z k26
    · exact absurd z k10
    · exact absurd z k39
    · exact absurd z k43
    · exact absurd z k45
    · exact z
  obtain ⟨x, hx, hl⟩ := lb_S hG
  rcases gSm_0 hx kr with ⟨bb, e⟩ | ⟨nb, z0, hz, sm⟩
  · rw [e] at hl
    refine ⟨Sum.inl (7, q), Or.inl ⟨_, rfl, (Option.some.inj hl).symm⟩, fun d gl Pc Vm tb mk N w lo qh σ L h zf hbg cx bd hd l1 => ?_⟩
    exfalso
    have e1 := cx.2.1
    have e2 := cx.2.2.1
    rcases bb with bb | ⟨bb1, bb2 | bb2⟩
    · exact hbad (Or.inr (Or.inl bb))
    · exact hbad (Or.inr (Or.inr ⟨bb1, bb2⟩))
    · omega
  refine ⟨_, SeT_of (Sem_S sm hl), fun d gl Pc Vm tb mk N w lo qh σ L h zf hbg cx bd hd l1 => ?_⟩
  have n10 := cx.1.2.2.2.2
  obtain ⟨bd1, bd2, bd3, bd4⟩ := bd
  have bds : BdS n o q v mk (N + 1) tb.length := ⟨by omega, bd2, bd3⟩
  refine Tm_suc (fun k => st_0 k _ _ _) ?_
  refine Tm_no (fun z => k26 ((ck h 26 (by decide)).1 z)) (Tm_no (fun z => k10 ((ck h 10 (by decide)).1 z)) (Tm_no (fun z => k39 ((ck h 39 (by decide)).1 z)) (Tm_no (fun z => k43 ((ck h 43 (by decide)).1 z)) (Tm_no (fun z => k45 ((ck h 45 (by decide)).1 z)) ?_))))
  by_cases k52 : tkK T n q = 52
  · refine Tm_yes ((ck h 52 (by decide)).2 k52) ?_
    rw [k52] at hz
    exact c_printS h zf hbg cx.1 bds k52 hz
  refine Tm_no (fun z => k52 ((ck h 52 (by decide)).1 z)) ?_
  refine Tm_suc (fun k => st_7 k _ _ _) ?_
  have hl' : tkK T n q = 49 ∨ tkK T n q = 50 → ∃ P0, lo = some P0 := fun z => by
    cases lo with
    | none => exact absurd (Or.inr (Or.inl ⟨z, cx.2.2.2.1.2 rfl⟩)) hbad
    | some P0 => exact ⟨P0, rfl⟩
  refine st_fin (Tm_mono (c_plain (Bd := bdO o v) h zf cx.1 bds ⟨kr.1, kr.2, k52⟩ hl' (fun z y => hbad (Or.inr (Or.inr ⟨z, by rw [cx.2.1]; exact y⟩))) (by omega) hz) (fun r hr => ZPo_m hr (Nat.le_add_right _ _) (fun t y τ ht zk => ?_)))
  refine S1W_of ht ?_
  rw [(zk.2.2.2.2.2.1 N (by omega)).1]
  exact hbg
end CXY
end JnS509
section JnS510
/-! The class: blocks are read. -/
section CXZ
variable {σ σ' σ0 τ τ' τ0 : CS} {L : LV} {b : Bool} {T : Nat → Int32} {n q q' u al o v mk mk' p sz sz' szB szE nc nc0 sz0 mk0 a1 a2 m kk f e s0 ow a t0 g D w st w' st' M nm deep vv np lp N Bd ns nb k d P h st0 b0 it : Nat} {y qh qh' y0 y1 wd x0 x1 x3 : Int32} {l l' cs cs' cs2 ll lt lt0 co bo : List Int32} {tb : List Ent} {E : En} {gl : Nat × (Nat → Nat → Prop)} {Vm : Nat → Prop} {Pc : Nat → Nat → Prop} {MD : Nat → Nat → Nat} {md : Nat → Nat} {bt : BT} {ks qs qs' qa qb js es qsI : List Nat} {lo lo' : Option Nat} {s : SB} {α : Type} {S : α → Int32 → CS → Prop} {x : Fl α} {C : Prop}
/-- a call within that may set the code laid since szB anew; what lies before stays -/
theorem zt_callM {β : Type} {z : Fl β} {R : β → Int32 → CS → Prop} {g : Nat → Option RS} {f : Nat → RS → Option RS} (h : Zy T n b u al σ0 nc0 sz0 mk0 a1 a2 tb o q v mk w st lo qh szB cs τ) (h0 : sz0 ≤ szB) (t : Tm g (ZPo b u tb.length szB mk z R τ 0 0)) (hx : (∃ ye, z = Sum.inl ye ∧ x = Sum.inl ye) ∨ ∃ s, z = Sum.inr s ∧ C ∧ ∀ (τ' : CS) (ret : Int32) (n1 n2 : Nat), R s ret τ' → ZK b u tb.length szB mk τ τ' → ZK b u nc0 sz0 mk0 σ0 τ' → (a1 + n1 + PhC τ' ≤ PhC σ0 ∧ a2 + n2 + PhS τ' ≤ PhS σ0) → Tm (fun k => f k ((0, ret), τ', (n1, n2))) (ZPo b u nc0 sz0 mk0 x S σ0 (a1 + n1) (a2 + n2))) : Tm (fun k => ox (g k) (f k)) (ZPo b u nc0 sz0 mk0 x S σ0 a1 a2) := by
  obtain ⟨⟨h1, h2, h3, h4, h5, h6⟩, _⟩ := h
  refine Tm_ox t (fun r w nz => ?_) (fun r w e0 => ?_)
  · rcases hx with ⟨y0, e1, e2⟩ | ⟨s, e1, _⟩
    · rw [e2]
      refine ⟨fun t' e => (by cases e), fun y1 ye => by cases ye; exact w.2.1 y0 e1, fun z => absurd z nz, fun z => ?_, ZK_t h2 w.2.2.2.2 h4 h0 h6⟩
      have y := w.2.2.2.1 z
      omega
    · exact absurd (w.1 s e1).1 nz
  · rcases hx with ⟨y0, e1, e2⟩ | ⟨s, e1, c, cont⟩
    · exact absurd (w.2.1 y0 e1).1 (by rw [e0]; decide)
    · have y := w.2.2.1 e0
      have k := cont r.2.1 r.1.2 r.2.2.1 r.2.2.2 (w.1 s e1).2 w.2.2.2.2 (ZK_t h2 w.2.2.2.2 h4 h0 h6) ⟨by omega, by omega⟩
      have er : ((0, r.1.2), r.2.1, (r.2.2.1, r.2.2.2)) = r := by
        rw [← e0]
      rw [er] at k
      exact Tm_mono k (fun q z => ZPo_s z)
theorem gXs_mo {t : ST} (hq : q ≤ n) (hv : v ≤ 60) (hs : s.1 ≤ 400) (hB : 1 ≤ bt.1) (h : gXs T n f MD E lp o q v bt s = some (Sum.inr t)) : s.1 ≤ t.2.2.2.2.2.1 := by
  unfold gXs at h
  have lf : ∀ {x : RG}, lb x (lif s) = some (Sum.inr t) → s.1 ≤ t.2.2.2.2.2.1 := fun h => by
    obtain ⟨r, _, e⟩ := lb_s h
    unfold lif at e
    cases e
    exact Nat.le_refl _
  have gg : ∀ nt : Nat, (nt = 2 ∨ nt = 4 ∨ nt = 5) → ¬ tkK T n q = 25 → GS T n MD f nt E lp o q v 0 0 0 bt s = some (Sum.inr t) → s.1 ≤ t.2.2.2.2.2.1 := fun nt hn hk h => by
    have z := (gs_mo f nt E lp o q v 0 0 0 bt s t 1 (by omega) hq hv hs h (Nat.le_refl _) hB (fun z => absurd z (by omega)) (fun _ _ => hk)).1
    obtain ⟨_, _, _, _, _, _, _, _, a9, _⟩ := z
    exact a9
  by_cases k26 : tkK T n q = 26
  · rw [if_pos k26] at h; exact lf h
  rw [if_neg k26] at h
  by_cases k10 : tkK T n q = 10
  · rw [if_pos k10] at h; exact lf h
  rw [if_neg k10] at h
  by_cases k39 : tkK T n q = 39
  · rw [if_pos k39] at h; exact gg 2 (by decide) (by omega) h
  rw [if_neg k39] at h
  by_cases k43 : tkK T n q = 43
  · rw [if_pos k43] at h; exact gg 4 (by decide) (by omega) h
  rw [if_neg k43] at h
  by_cases k45 : tkK T n q = 45
  · rw [if_pos k45] at h; exact gg 5 (by decide) (by omega) h
  rw [if_neg k45] at h
  exact lf h
/-- how a block stands behind some statements -/
def BlS (T : Nat → Int32) (n : Nat) (b : Bool) (u al : Nat) (gl : Nat × (Nat → Nat → Prop)) (Pc : Nat → Nat → Prop) (Vm : Nat → Prop) (σ : CS) (a1 a2 : Nat) (tb : List Ent) (o mk N q0 v0 w st0 : Nat) (lo : Option Nat) (qh : Int32) (r : Nat × Nat × Nat) (it : Nat) (τ : CS) : Prop := ∃ (cs : List Int32) (qs : List Nat) (ns : Nat), Zy T n b u al σ tb.length N mk a1 a2 tb o r.1 r.2.1 mk w r.2.2 lo (hdQ N qh qs) N cs τ ∧ Stm u gl Pc Vm w N lo (bdO o v0) ns qs cs ∧ JsT N cs qh qs ∧ (2 * cs.length ≤ 7 * (r.1 - q0) ∧ ns + st0 ≤ r.2.2 ∧ qs.length ≤ lqN lo ns) ∧ (q0 ≤ r.1 ∧ v0 ≤ r.2.1) ∧ it ≤ r.2.2
def PLk (T : Nat → Int32) (n : Nat) (b : Bool) (u al : Nat) (MD : Nat → Nat → Nat) (f : Nat) : Prop := ∀ (E : En) (lp o q v : Nat) (pe : Int32) (i l : Nat) (bt : BT) (s : SB) (x : Fl ST), q ≤ n → v ≤ 60 → s.1 ≤ 400 → 1 ≤ bt.1 → GS T n MD f 0 E lp o q v pe i l bt s = some x → ∃ z : Fl (Nat × Nat × Nat), Bem T n x z ∧ ∀ (d : Nat) (gl : Nat × (Nat → Nat → Prop)) (Pc : Nat → Nat → Prop) (Vm : Nat → Prop) (tb : List Ent) (mk N w q0 v0 st0 it a1 a2 : Nat) (lo : Option Nat) (qh : Int32) (σ τ : CS) (L : LV), BlS T n b u al gl Pc Vm σ a1 a2 tb o mk N q0 v0 w st0 lo qh (q, v, s.1) it τ → CxS n E b u al gl Vm Pc MD tb lp lo σ → BdB n o q0 v0 mk N w tb.length → 4 * (20 - o) ≤ d → L.1 1 = nI it → Tm (fun k => f_F3 k (d + 1) 0 1 L τ) (ZPo b u tb.length N mk z (fun r _ τ => BlR T n b u al gl Pc Vm tb o mk N q0 v0 w st0 lo qh r τ) σ a1 a2)
theorem bk_0 (k d : Nat) (L : LV) (σ : CS) : f_F3 (k + 1) d 0 0 L σ = (f_F3 k d 0 1 (lI L 1 0) σ) := rfl
theorem bk_1 (k d : Nat) (L : LV) (σ : CS) : f_F3 (k + 1) d 0 1 L σ = (if 400 < ((L.1 1)) then (f_F3 k d 0 2 L σ) else (op (y_X5_beginsStatement k 0 lZ σ) (fun r2 => if r2.1 = 0 then (f_F3 k d 0 2 L r2.2) else (ox (f_X5_checkStatement k 0 lZ r2.2) (fun r4 => oP (sPp r4.2.1) (fun b5 => oP (sPp (uI r4.2.1 (fP b5 3) ((((r4.2.1.1 (fP b5 3))) + 1)))) (fun b6 => ox (f_X7_emit__P k 0 (lI (lI (lB lZ 0 b6) 1 0) 2 (((uI r4.2.1 (fP b5 3) ((((r4.2.1.1 (fP b5 3))) + 1))).1 3703))) (uI r4.2.1 (fP b5 3) ((((r4.2.1.1 (fP b5 3))) + 1)))) (fun r7 => of d (fun e8 => ox (f_F3 k e8 4 0 (lI lZ 1 r7.1.2) r7.2.1) (fun r8 => f_F3 k d 0 1 (lI L 1 ((((L.1 1)) + 1))) r8.2.1)))))))))) := rfl
theorem bk_2 (k d : Nat) (L : LV) (σ : CS) : f_F3 (k + 1) d 0 2 L σ = (some ((0, 0), σ, (0, 0))) := rfl
/-- a block ends -/
theorem c_blEnd {q0 v0 : Nat} (hs : BlS T n b u al gl Pc Vm σ a1 a2 tb o mk N q0 v0 w st0 lo qh (q, v, st) it τ) (hst : ¬ isSt (tkK T n q)) (l1 : L.1 1 = nI it) : Tm (fun k => f_F3 k (d + 1) 0 1 L τ) (ZPo b u tb.length N mk (Sum.inr (q, v, st)) (fun r _ τ => BlR T n b u al gl Pc Vm tb o mk N q0 v0 w st0 lo qh r τ) σ a1 a2) := by
  obtain ⟨cs, qs, ns, s1, r4, r5, ⟨r6, r6', r6''⟩, ⟨r7, r8⟩, hit⟩ := hs
  have hit' : it ≤ st := hit
  have st4 : st ≤ 400 := s1.2.2.2.1.2
  refine Tm_suc (fun k => bk_1 k _ _ _) ?_
  refine Tm_no (fun z => by rw [l1] at z; exact absurd ((n_lt (p := 400) (q := it) (by decide) (by omega)).1 z) (by omega)) ?_
  refine Tm_op (c_begins s1.1.1) (fun r2 z2 => ?_)
  refine Tm_yes (z2.2.2 hst) ?_
  rw [z2.1]
  refine Tm_suc (fun k => bk_2 k _ _ _) ?_
  exact Tm_some (Zfin s1 ⟨cs, qs, ns, s1.1.1, s1.2.1, s1.2.2, r4, r5, ⟨r6, r6', r6''⟩, r7, r8⟩)
end CXZ
end JnS510
section JnS511
/-! The class: blocks are read whole. -/
section CYA
variable {σ σ' σ0 τ τ' τ0 : CS} {L : LV} {b : Bool} {T : Nat → Int32} {n q q' u al o v mk mk' p sz sz' szB szE nc nc0 sz0 mk0 a1 a2 m kk f e s0 ow a t0 g D w st w' st' M nm deep vv np lp N Bd ns nb k d P h st0 b0 it q0 v0 : Nat} {y qh qh' y0 y1 wd x0 x1 x3 : Int32} {l l' cs cs' cs2 ll lt lt0 co bo : List Int32} {tb : List Ent} {E : En} {gl : Nat × (Nat → Nat → Prop)} {Vm : Nat → Prop} {Pc : Nat → Nat → Prop} {MD : Nat → Nat → Nat} {md : Nat → Nat} {bt : BT} {ks qs qs' qa qb js es qsI : List Nat} {lo lo' : Option Nat} {s : SB}
/-- a statement is refused -/
theorem c_blBad (hs : BlS T n b u al gl Pc Vm σ a1 a2 tb o mk N q0 v0 w st0 lo qh (q, v, st) it τ) (cx : CxS n E b u al gl Vm Pc MD tb lp lo σ) (hst : isSt (tkK T n q)) (hbad : Bad (tkK T n q) o st u lo) (l1 : L.1 1 = nI it) : Tm (fun k => f_F3 k (d + 1) 0 1 L τ) (ZPo b u tb.length N mk (Sum.inl (bdF (tkK T n q) o st q)) (fun r _ τ => BlR T n b u al gl Pc Vm tb o mk N q0 v0 w st0 lo qh r τ) σ a1 a2) := by
  obtain ⟨cs, qs, ns, s1, r4, r5, ⟨r6, r6', r6''⟩, ⟨r7, r8⟩, hit⟩ := hs
  have hit' : it ≤ st := hit
  have st4 : st ≤ 400 := s1.2.2.2.1.2
  refine Tm_suc (fun k => bk_1 k _ _ _) ?_
  refine Tm_no (fun z => by rw [l1] at z; exact absurd ((n_lt (p := 400) (q := it) (by decide) (by omega)).1 z) (by omega)) ?_
  refine Tm_op (c_begins s1.1.1) (fun r2 z2 => ?_)
  refine Tm_no (by rw [z2.2.1 hst]; decide) ?_
  rw [z2.1]
  exact zt_call (C := True) (z := Sum.inl (bdF (tkK T n q) o st q)) s1 (c_check s1.1.1 s1.2.2 (by have := cx.2.2.1; omega) (fun p e => by have := cx.2.2.2.2 p e; omega) (Or.inl ⟨hbad, rfl⟩)) (Or.inl ⟨_, rfl, rfl⟩)
/-- one statement -/
theorem c_blStep {z1 zF : Fl (Nat × Nat × Nat)} (hs : BlS T n b u al gl Pc Vm σ a1 a2 tb o mk N q0 v0 w st0 lo qh (q, v, st) it τ) (cx : CxS n E b u al gl Vm Pc MD tb lp lo σ) (bd : BdB n o q0 v0 mk N w tb.length) (hst : isSt (tkK T n q)) (hbad : ¬ Bad (tkK T n q) o st u lo) (l1 : L.1 1 = nI it) (run : ∀ (N : Nat) (qh : Int32) (σ : CS) (L : LV), QS T n b u al tb o q v mk 0 (N + 1) σ → ZF b u w (st + 1) lo qh σ → cdr b σ N = em 0 (nI q) → CxS n E b u al gl Vm Pc MD tb lp lo σ → BdB n o q v mk N w tb.length → L.1 1 = nI N → Tm (fun k => f_F3 k d 4 0 L σ) (ZPo b u tb.length N mk z1 (fun r _ τ => S1T T n b u al gl Pc Vm tb o mk N q v w (st + 1) lo qh (bdO o v) r τ) σ 0 0)) (h0 : ∀ ye, z1 = Sum.inl ye → zF = Sum.inl ye) (hm : ∀ r, z1 = Sum.inr r → st + 1 ≤ r.2.2) (hn : ∀ (r : Nat × Nat × Nat), z1 = Sum.inr r → ∀ (τ' : CS) (L' : LV) (n1 n2 : Nat), BlS T n b u al gl Pc Vm σ n1 n2 tb o mk N q0 v0 w st0 lo qh r (it + 1) τ' → L'.1 1 = nI (it + 1) → Tm (fun k => f_F3 k (d + 1) 0 1 L' τ') (ZPo b u tb.length N mk zF (fun r _ τ => BlR T n b u al gl Pc Vm tb o mk N q0 v0 w st0 lo qh r τ) σ n1 n2)) : Tm (fun k => f_F3 k (d + 1) 0 1 L τ) (ZPo b u tb.length N mk zF (fun r _ τ => BlR T n b u al gl Pc Vm tb o mk N q0 v0 w st0 lo qh r τ) σ a1 a2) := by
  obtain ⟨cs, qs, ns, s1, r4, r5, ⟨r6, r6', r6''⟩, ⟨r7, r8⟩, hit⟩ := hs
  have hit' : it ≤ st := hit
  have r6a : 2 * cs.length ≤ 7 * (q - q0) := r6
  have r7a : q0 ≤ q := r7
  have r8a : v0 ≤ v := r8
  have r6b : ns + st0 ≤ st := r6'
  have st4 : st ≤ 400 := s1.2.2.2.1.2
  have st5 : ¬ st = 400 := fun z => hbad (Or.inr (Or.inl z))
  have n10 := cx.1.2.2.2.2
  obtain ⟨bd1, bd2, bd3, bd4⟩ := bd
  have go := tk_go s1.1.1
  have hbi : ¬ tkK T n q = 25 := fun z => by rcases hst with y | y | y | y | y | y <;> omega
  have g1 := go.2.2 (by show ¬ tkK T n q = 25; exact hbi)
  refine Tm_suc (fun k => bk_1 k _ _ _) ?_
  refine Tm_no (fun z => by rw [l1] at z; exact absurd ((n_lt (p := 400) (q := it) (by decide) (by omega)).1 z) (by omega)) ?_
  refine Tm_op (c_begins s1.1.1) (fun r2 z2 => ?_)
  refine Tm_no (by rw [z2.2.1 hst]; decide) ?_
  rw [z2.1]
  refine zt_call (C := True) (z := Sum.inr ()) s1 (c_check s1.1.1 s1.2.2 (by have := cx.2.2.1; omega) (fun p e => by have := cx.2.2.2.2 p e; omega) (Or.inr ⟨hbad, rfl⟩)) (Or.inr ⟨(), rfl, trivial, fun τ2 ret2 n1 n2 e2 xk2 hc2 => ?_⟩)
  have e2' : τ2 = τ := e2
  rw [e2'] at hc2
  rw [e2']
  have s2 : Zy T n b u al σ tb.length N mk (a1 + n1) (a2 + n2) tb o q v mk w st lo (hdQ N qh qs) N cs τ := ⟨⟨s1.1.1, s1.1.2.1, hc2, s1.1.2.2.2⟩, s1.2⟩
  refine Tm_oP (Zy_pp s2) ?_
  have e3 : τ.1 (fP b 3) = nI st := s2.2.2.2.1.1
  rw [e3, n_add1]
  have fc := fP_c b 3
  have zf := s2.2.2
  have s3 : Zy T n b u al σ tb.length N mk (a1 + n1) (a2 + n2) tb o q v mk w (st + 1) lo (hdQ N qh qs) N cs (uI τ (fP b 3) (nI (st + 1))) := Zy_g s2 (fun j hj => uI_o (by omega)) rfl (by rw [uI_o (by omega)]; exact s2.1.1.2.2.1.1) (Nat.le_refl _) (Nat.le_refl _) ⟨zf.1, ⟨uI_s, by omega⟩, by rw [uI_o (by omega)]; exact zf.2.2.1, by rw [uI_o (by omega)]; exact zf.2.2.2.1, zf.2.2.2.2⟩
  refine Tm_oP (Zy_pp s3) ?_
  have e03 : (uI τ (fP b 3) (nI (st + 1))).1 3703 = nI q := s3.1.1.1.2.2.2.2.2.2.1
  rw [e03]
  refine zt_emit (op := 0) s3 rfl rfl (by omega) (fun τ4 n3 n4 s4 xk4 => ?_)
  have s4' : Zy T n b u al σ tb.length N mk (a1 + n1 + n3) (a2 + n2 + n4) tb o q v mk w (st + 1) lo (hdQ N qh qs) N (cs ++ [em 0 (nI q)]) τ4 := s4
  have ls : (cs ++ [em 0 (nI q)]).length = cs.length + 1 := by rw [List.length_append]; rfl
  have q4 : QS T n b u al tb o q v mk 0 (N + cs.length + 1) τ4 := by have z := s4'.1.1; rw [ls] at z; exact z
  have hb4 : cdr b τ4 (N + cs.length) = em 0 (nI q) := by
    rw [s4'.2.1 cs.length (by omega)]
    exact gd_r (a := cs) (b := [em 0 (nI q)]) 0
  have s5 : Zy T n b u al σ tb.length N mk (a1 + n1 + n3) (a2 + n2 + n4) tb o q v mk w (st + 1) lo (hdQ N qh qs) (N + cs.length) [em 0 (nI q)] τ4 := ⟨⟨q4, s4'.1.2.1, s4'.1.2.2.1, Nat.le_refl _, by show N ≤ N + cs.length + 1; omega, Nat.le_refl _⟩, fun i hi => by
    have : i = 0 := by have hi' : i < 1 := hi; omega
    subst this
    exact hb4, s4'.2.2⟩
  refine Tm_d ?_
  have bdb : BdB n o q v mk (N + cs.length) w tb.length := ⟨by omega, by omega, by omega, by omega⟩
  refine zt_callM (C := True) s5 (Nat.le_add_right _ _) (run (N + cs.length) _ τ4 _ q4 s4'.2.2 hb4 (CxS_k cx s4'.1.2.1) bdb rfl) ?_
  cases z1 with
  | inl yf => exact Or.inl ⟨_, rfl, h0 _ rfl⟩
  | inr r =>
    refine Or.inr ⟨r, rfl, trivial, fun τ6 ret6 n5 n6 hr zk6 zks hc6 => ?_⟩
    obtain ⟨c2, q2, ns2, t1, t2, t3, t4, t5, ⟨t6, t6', t6''⟩, t7, t8⟩ := hr
    have hm1 := hm r rfl
    have jj := JsT_s q2 qs r5 t5
    have ll2 : (cs ++ c2).length = cs.length + c2.length := List.length_append
    have t4' := Stm_w t4 (Bd' := bdO o v0) (by unfold bdO; omega) (Nat.le_refl _)
    have ty := Stm_q (Stm_seq r4 t4') (qs' := shQ cs.length q2 ++ qs) (fun i => by rw [List.mem_append, List.mem_append]; exact ⟨fun z => z.symm, fun z => z.symm⟩) (JsT_p _ jj.1)
    refine hn r rfl τ6 _ _ _ ⟨cs ++ c2, shQ cs.length q2 ++ qs, ns + ns2, ⟨⟨by rw [ll2, ← Nat.add_assoc]; exact t1, zks, hc6, Nat.le_refl _, by rw [ll2]; omega, Nat.le_refl _⟩, fun i hi => ?_, by rw [jj.2]; exact t3⟩, ty, jj.1, ⟨by rw [ll2]; omega, by omega, by rw [List.length_append, shQ_l, Nat.add_comm q2.length]; exact lqN_a r6'' t6''⟩, ⟨by omega, by omega⟩, by omega⟩ (by rw [l1, n_add1]; rfl)
    by_cases c : i < cs.length
    · rw [(zk6.2.2.2.2.2.1 (N + i) (by omega)).1, s4'.2.1 i (by omega), gd_l c, gd_l c]
    · have z := t2 (i - cs.length) (by omega)
      have y := gd_r (a := cs) (b := c2) (i - cs.length)
      rw [show N + cs.length + (i - cs.length) = N + i by omega] at z
      rw [show cs.length + (i - cs.length) = i by omega] at y
      rw [z, y]
theorem c_blk : ∀ f, (∀ g, g < f → P1k T n b u al MD g) → PLk T n b u al MD f := by
  intro f
  induction f with
  | zero => intro _ E lp o q v pe i l bt s x _ _ _ _ hG; simp only [GS] at hG; cases hG
  | succ f ih =>
    intro hp E lp o q v pe i l bt s x hq hv hs hB1 hG
    have hG0 := hG
    simp only [GS] at hG
    by_cases c : isBE (tkK T n q)
    · rw [if_pos c] at hG
      refine ⟨Sum.inr (q, v, s.1), Or.inr ⟨_, rfl, Or.inr ⟨_, (Option.some.inj hG).symm, rfl, rfl, rfl⟩⟩, fun d gl Pc Vm tb mk N w q0 v0 st0 it a1 a2 lo qh σ τ L hs' cx bd hd l1 => ?_⟩
      exact c_blEnd hs' (fun z => by rcases z with y | y | y | y | y | y <;> omega) l1
    rw [if_neg c] at hG
    by_cases hst : isSt (tkK T n q)
    case neg =>
      refine ⟨Sum.inr (q, v, s.1), Or.inr ⟨_, rfl, Or.inl ⟨?_, c⟩⟩, fun d gl Pc Vm tb mk N w q0 v0 st0 it a1 a2 lo qh σ τ L hs' cx bd hd l1 => c_blEnd hs' hst l1⟩
      cases f with
      | zero => simp only [GS] at hG; cases hG
      | succ f =>
        simp only [GS] at hG
        rw [if_pos (Or.inl hst)] at hG
        exact (Option.some.inj hG).symm.trans (by rw [stF_2 hst])
    cases f with
    | zero => simp only [GS] at hG; cases hG
    | succ f =>
      by_cases c2 : (isOp (tkK T n q) ∧ o = 20) ∨ s.1 = 400
      · have hx : x = Sum.inl (bdF (tkK T n q) o s.1 q) := by
          simp only [GS] at hG
          rw [if_pos (Or.inr c2)] at hG
          refine (Option.some.inj hG).symm.trans ?_
          by_cases c3 : isOp (tkK T n q) ∧ o = 20
          · rw [stF_3 hst c3.1 c3.2, bdF_3 c3]
          · rw [stF_8 hst c3, bdF_8 c3 (c2.resolve_left c3)]
        refine ⟨Sum.inl (bdF (tkK T n q) o s.1 q), Or.inl ⟨_, rfl, hx⟩, fun d gl Pc Vm tb mk N w q0 v0 st0 it a1 a2 lo qh σ τ L hs' cx bd hd l1 => c_blBad hs' cx hst ?_ l1⟩
        rcases c2 with c2 | c2
        · exact Or.inl c2
        · exact Or.inr (Or.inl c2)
      have cn : ¬ (¬ isSt (tkK T n q) ∨ (isOp (tkK T n q) ∧ o = 20) ∨ s.1 = 400) := fun z => by
        rcases z with z | z
        · exact z hst
        · exact c2 z
      have hG1 : hb (hb (gXs T n f MD E lp o q v bt (sMo s)) (fun r => some (Sum.inr (r.1, r.2.1, s.1, r.2.2.2.1, bSet r.2.2.2.2.1 8 r.2.2.2.1 (nI s.1), sPl r.2.2.2.2.2 s.1 (nI q))))) (fun r => GS T n MD (f + 1) 0 E lp o r.1 r.2.1 pe (fst2 i r.2.2.2.1) r.2.2.2.1 (bLnk i l r.2.2.2.1 r.2.2.2.2.1) (sUp r.2.2.2.2.2 r.2.2.1 pe)) = some x := by
        have z : hb (GS T n MD (f + 1) 1 E lp o q v 0 0 0 bt s) (fun r => GS T n MD (f + 1) 0 E lp o r.1 r.2.1 pe (fst2 i r.2.2.2.1) r.2.2.2.1 (bLnk i l r.2.2.2.1 r.2.2.2.2.1) (sUp r.2.2.2.2.2 r.2.2.1 pe)) = some x := hG
        have e : GS T n MD (f + 1) 1 E lp o q v 0 0 0 bt s = hb (gXs T n f MD E lp o q v bt (sMo s)) (fun r => some (Sum.inr (r.1, r.2.1, s.1, r.2.2.2.1, bSet r.2.2.2.2.1 8 r.2.2.2.1 (nI s.1), sPl r.2.2.2.2.2 s.1 (nI q)))) := by
          simp only [GS]
          rw [if_neg cn]
          rfl
        rw [e] at z
        exact z
      have gz : ∃ y, gXs T n f MD E lp o q v bt (sMo s) = some y := by
        rcases hb_any hG1 with ⟨yf, y1, _⟩ | ⟨_, y1, _⟩
        · rcases hb_any y1 with ⟨yf, y2, _⟩ | ⟨_, y2, _⟩
          · exact ⟨_, y2⟩
          · exact ⟨_, y2⟩
        · rcases hb_any y1 with ⟨yf, y2, _⟩ | ⟨_, y2, _⟩
          · exact ⟨_, y2⟩
          · exact ⟨_, y2⟩
      obtain ⟨y, hy⟩ := gz
      have s4 : (sMo s).1 ≤ 400 := by show s.1 + 1 ≤ 400; omega
      by_cases cb : BadG (tkK T n q) o lp E
      · have hy0 : y = Sum.inl (7, q) := by
          have kr : 49 ≤ tkK T n q ∧ tkK T n q ≤ 51 := by
            rcases cb with z | z | z
            · exact absurd (Or.inl z) c2
            · omega
            · omega
          have hy2 := hy
          unfold gXs at hy2
          rw [if_neg (by omega), if_neg (by omega), if_neg (by omega), if_neg (by omega), if_neg (by omega)] at hy2
          obtain ⟨x3, hx3, hl3⟩ := lb_S hy2
          rcases gSm_0 hx3 ⟨kr.1, by omega⟩ with ⟨_, e⟩ | ⟨nb, _⟩
          · rw [e] at hl3; exact (Option.some.inj hl3).symm
          · exfalso
            rcases cb with z | z | z
            · exact c2 (Or.inl z)
            · exact nb (Or.inl z)
            · exact nb (Or.inr ⟨z.1, Or.inl z.2⟩)
        rw [hy, hy0] at hG1
        refine ⟨Sum.inl (bdF (tkK T n q) o s.1 q), Or.inl ⟨_, rfl, (Option.some.inj hG1).symm.trans (by rw [bdF_7 (fun z => c2 (Or.inl z)) (fun z => c2 (Or.inr z))])⟩, fun d gl Pc Vm tb mk N w q0 v0 st0 it a1 a2 lo qh σ τ L hs' cx bd hd l1 => c_blBad hs' cx hst ?_ l1⟩
        rcases cb with z | z | z
        · exact Or.inl z
        · exact Or.inr (Or.inr (Or.inl ⟨z.1, cx.2.2.2.1.1 z.2⟩))
        · exact Or.inr (Or.inr (Or.inr ⟨z.1, by rw [← cx.2.1]; exact z.2⟩))
      have nbad : ∀ {gl : Nat × (Nat → Nat → Prop)} {Pc : Nat → Nat → Prop} {Vm : Nat → Prop} {tb : List Ent} {lo : Option Nat} {σ : CS}, CxS n E b u al gl Vm Pc MD tb lp lo σ → ¬ Bad (tkK T n q) o s.1 u lo := fun cx z => by
        rcases z with z | z | z | z
        · exact c2 (Or.inl z)
        · exact c2 (Or.inr z)
        · exact cb (Or.inr (Or.inl ⟨z.1, cx.2.2.2.1.2 z.2⟩))
        · exact cb (Or.inr (Or.inr ⟨z.1, by rw [cx.2.1]; exact z.2⟩))
      obtain ⟨z1, sz, run⟩ := hp f (by omega) E lp o q v bt (sMo s) y hq hv s4 hB1 hst cb hy
      rcases sz with ⟨ye, e1, e2⟩ | ⟨r, nd, bb, ss, e1, e2, e3⟩
      · rw [hy, e2] at hG1
        refine ⟨Sum.inl ye, Or.inl ⟨_, rfl, (Option.some.inj hG1).symm⟩, fun d gl Pc Vm tb mk N w q0 v0 st0 it a1 a2 lo qh σ τ L hs' cx bd hd l1 => ?_⟩
        refine c_blStep (z1 := z1) hs' cx bd hst (nbad cx) l1 (fun N qh σ L h1 h2 h3 h4 h5 h6 => run d gl Pc Vm tb mk N w lo qh σ L h1 h2 h3 h4 h5 hd h6) (fun _ z => by rw [e1] at z; cases z; rfl) (fun r z => ?_) (fun r z => ?_)
        · rw [e1] at z; cases z
        · rw [e1] at z; cases z
      · rw [hy, e2] at hG1
        have hsm := gXs_mo hq hv s4 hB1 (hy.trans (congrArg some e2))
        have hsm' : s.1 + 1 ≤ r.2.2 := by rw [← e3]; exact hsm
        have e4 : GS T n MD (f + 1) 1 E lp o q v 0 0 0 bt s = some (Sum.inr (r.1, r.2.1, s.1, nd, bSet bb 8 nd (nI s.1), sPl ss s.1 (nI q))) := by
          simp only [GS]
          rw [if_neg cn]
          have z : hb (gXs T n f MD E lp o q v bt (sMo s)) (fun r => some (Sum.inr (r.1, r.2.1, s.1, r.2.2.2.1, bSet r.2.2.2.2.1 8 r.2.2.2.1 (nI s.1), sPl r.2.2.2.2.2 s.1 (nI q)))) = some (Sum.inr (r.1, r.2.1, s.1, nd, bSet bb 8 nd (nI s.1), sPl ss s.1 (nI q))) := by rw [hy, e2]; rfl
          exact z
        obtain ⟨mo, _⟩ := gs_mo (f + 1) 1 E lp o q v 0 0 0 bt s _ 1 (by decide) hq hv hs e4 (Nat.le_refl _) hB1 (fun z => absurd z (by decide)) (fun z => absurd z (by decide))
        obtain ⟨m1, m2, m3, m4, m5, m6, m7, m8, m9, m10⟩ := mo
        have hG2 : GS T n MD (f + 1) 0 E lp o r.1 r.2.1 pe (fst2 i nd) nd (bLnk i l nd (bSet bb 8 nd (nI s.1))) (sUp (sPl ss s.1 (nI q)) s.1 pe) = some x := hG1
        have m5' : bt.1 ≤ bb.1 := m5
        have m10' : ss.1 ≤ 400 := m10
        obtain ⟨z, bz, rn⟩ := ih (fun g hg => hp g (by omega)) E lp o r.1 r.2.1 pe (fst2 i nd) nd (bLnk i l nd (bSet bb 8 nd (nI s.1))) (sUp (sPl ss s.1 (nI q)) s.1 pe) x m2 m4 m10' (by rw [bLnk_1]; show 1 ≤ bb.1; omega) hG2
        refine ⟨z, bz, fun d gl Pc Vm tb mk N w q0 v0 st0 it a1 a2 lo qh σ τ L hs' cx bd hd l1 => ?_⟩
        refine c_blStep (z1 := z1) hs' cx bd hst (nbad cx) l1 (fun N qh σ L h1 h2 h3 h4 h5 h6 => run d gl Pc Vm tb mk N w lo qh σ L h1 h2 h3 h4 h5 hd h6) (fun _ z => ?_) (fun r' z => ?_) (fun r' z τ' L' n1 n2 hs2 l2 => ?_)
        · rw [e1] at z; cases z
        · rw [e1] at z; cases z; exact hsm'
        · rw [e1] at z; cases z
          have er : r = (r.1, r.2.1, ss.1) := by rw [e3]
          rw [er] at hs2
          exact rn d gl Pc Vm tb mk N w q0 v0 st0 (it + 1) n1 n2 lo qh σ τ' L' hs2 cx bd hd l2
theorem PBk_of (h : PLk T n b u al MD f) : PBk T n b u al MD f := by
  intro E lp o q v pe i l bt s x hq hv hs hB1 hG
  obtain ⟨z, bz, run⟩ := h E lp o q v pe i l bt s x hq hv hs hB1 hG
  refine ⟨z, bz, fun d gl Pc Vm tb mk N w lo qh σ L h zf cx bd hd => ?_⟩
  obtain ⟨d1, ed⟩ : ∃ d1, d = d1 + 1 := ⟨d - 1, by omega⟩
  subst ed
  have s0 := Zy_0 h zf
  refine Tm_suc (fun k => bk_0 k _ _ _) ?_
  exact run d1 gl Pc Vm tb mk N w q v s.1 0 0 0 lo qh σ σ _ ⟨[], [], 0, s0, Stm_nil, trivial, ⟨Nat.zero_le _, by show 0 + s.1 ≤ s.1; omega, Nat.zero_le _⟩, ⟨Nat.le_refl _, Nat.le_refl _⟩, Nat.zero_le _⟩ cx bd (by omega) rfl
/-- blocks of any kind, once fors are read -/
theorem blk_all (hf : ∀ f, (∀ g, g ≤ f → PBk T n b u al MD g) → PSk T n b u al MD (f + 1) 5 1) : ∀ f, PBk T n b u al MD f := by
  intro f
  induction f using Nat.strongRecOn with
  | ind f ih =>
    refine PBk_of (c_blk f (fun g hg => ?_))
    cases g with
    | zero =>
      have v0 : ∀ nt m, PSk T n b u al MD 0 nt m := fun nt m E lp o q v pe i l bt s y _ _ _ _ _ _ hG => by simp only [GS] at hG; cases hG
      exact c_stmt (v0 2 2) (v0 4 5) (v0 5 1)
    | succ g => exact c_stmt (c_if (fun g' hg' => ih g' (by omega))) (c_while (ih g (by omega))) (hf g (fun g' hg' => ih g' (by omega)))
end CYA
end JnS511
