/-! The class: ifs are read. -/
section CXU
variable {σ σ' σ0 τ τ' τ0 : CS} {L : LV} {b : Bool} {T : Nat → Int32} {n q q' u al o v mk mk' p sz sz' szB szE nc nc0 sz0 mk0 a1 a2 m kk f e s0 ow a t0 g D w st w' st' M nm deep vv np lp N Bd ns nb k d P h st0 b0 : Nat} {y qh qh' y0 y1 wd x0 : Int32} {l l' cs cs' cs2 ll lt lt0 co bo : List Int32} {tb : List Ent} {E : En} {gl : Nat × (Nat → Nat → Prop)} {Vm : Nat → Prop} {Pc : Nat → Nat → Prop} {MD : Nat → Nat → Nat} {md : Nat → Nat} {bt : BT} {ks qs qs' qa qb js es qsI : List Nat} {lo lo' : Option Nat} {s : SB}
/-- how an if stands behind a branch -/
def IfSt (T : Nat → Int32) (n : Nat) (b : Bool) (u al : Nat) (gl : Nat × (Nat → Nat → Prop)) (Pc : Nat → Nat → Prop) (Vm : Nat → Prop) (σ : CS) (a1 a2 : Nat) (tb : List Ent) (o mk w : Nat) (lo : Option Nat) (qh : Int32) (N q v st0 : Nat) (ow : Option Nat) (r : Nat × Nat × Nat) (L : LV) (τ : CS) : Prop := ∃ (cs : List Int32) (js es : List Nat) (ns : Nat), Zy T n b u al σ tb.length N mk a1 a2 tb (o + 1) r.1 r.2.1 mk w r.2.2 lo (hdQ N qh js) N cs τ ∧ IfX u gl Pc Vm w N lo qh (bdO (o + 1) v) ns js es ow cs ∧ (2 * cs.length ≤ 7 * (r.1 - q) ∧ ns + st0 ≤ r.2.2 + 1 ∧ es.length ≤ r.1) ∧ (q < r.1 ∧ v ≤ r.2.1) ∧ L.1 1 = nI (jsH N es) ∧ ((ow = none ∧ L.1 2 = -1) ∨ ∃ h, ow = some h ∧ L.1 2 = nI (N + h))
theorem fi_0 (k d : Nat) (L : LV) (σ : CS) : f_F3 (k + 1) d 2 0 L σ = (ox (f_X5_opens k 0 lZ σ) (fun r1 => if ((r1.2.1.1 3702)) = 63 then (ox (f_X2_advance k 0 lZ r1.2.1) (fun r3 => oP (sPp r3.2.1) (fun b4 => ox (f_X7_emit__P k 0 (lI (lI (lB lZ 0 b4) 1 21) 2 0) r3.2.1) (fun r5 => f_F3 k d 2 2 L r5.2.1)))) else (f_F3 k d 2 1 L r1.2.1))) := rfl
theorem fi_1 (k d : Nat) (L : LV) (σ : CS) : f_F3 (k + 1) d 2 1 L σ = (ox (f_X5_exp k 0 (lI lZ 1 0) σ) (fun r1 => f_F3 k d 2 2 L r1.2.1)) := rfl
theorem fi_2 (k d : Nat) (L : LV) (σ : CS) : f_F3 (k + 1) d 2 2 L σ = (ox (f_X5_expect k 0 (lI lZ 1 40) σ) (fun r1 => oP (sPp r1.2.1) (fun b2 => ox (f_X7_emit__P k 0 (lI (lI (lB lZ 0 b2) 1 4) 2 0) r1.2.1) (fun r3 => of d (fun e4 => ox (f_F3 k e4 0 0 lZ r3.2.1) (fun r4 => f_F3 k d 2 3 (lI (lI (lI L 1 0) 2 r3.1.2) 3 0) r4.2.1)))))) := rfl
theorem fi_3 (k d : Nat) (L : LV) (σ : CS) : f_F3 (k + 1) d 2 3 L σ = (if 32768 < ((L.1 3)) then (f_F3 k d 2 4 L σ) else (if ((σ.1 3702)) = 41 then (oP (sPp σ) (fun b3 => ox (f_X7_emit__P k 0 (lI (lI (lB lZ 0 b3) 1 3) 2 ((L.1 1))) σ) (fun r4 => oP (sPp r4.2.1) (fun b5 => oP (sPp r4.2.1) (fun b6 => op (y_X7_aim__P k 0 (lI (lI (lB lZ 0 b5) 1 ((L.1 2))) 2 ((r4.2.1.1 (fP b6 1)))) r4.2.1) (fun r7 => ox (f_X2_advance k 0 lZ r7.2) (fun r8 => ox (f_X5_exp k 0 (lI lZ 1 0) r8.2.1) (fun r9 => ox (f_X5_expect k 0 (lI lZ 1 40) r9.2.1) (fun r10 => oP (sPp r10.2.1) (fun b11 => ox (f_X7_emit__P k 0 (lI (lI (lB lZ 0 b11) 1 4) 2 0) r10.2.1) (fun r12 => of d (fun e13 => ox (f_F3 k e13 0 0 lZ r12.2.1) (fun r13 => f_F3 k d 2 3 (lI (lI (lI L 1 r4.1.2) 2 r12.1.2) 3 ((((L.1 3)) + 1))) r13.2.1))))))))))))) else (f_F3 k d 2 4 L σ))) := rfl
theorem fi_4 (k d : Nat) (L : LV) (σ : CS) : f_F3 (k + 1) d 2 4 L σ = (if ((σ.1 3702)) = 42 then (oP (sPp σ) (fun b2 => ox (f_X7_emit__P k 0 (lI (lI (lB lZ 0 b2) 1 3) 2 ((L.1 1))) σ) (fun r3 => oP (sPp r3.2.1) (fun b4 => oP (sPp r3.2.1) (fun b5 => op (y_X7_aim__P k 0 (lI (lI (lB lZ 0 b4) 1 ((L.1 2))) 2 ((r3.2.1.1 (fP b5 1)))) r3.2.1) (fun r6 => ox (f_X2_advance k 0 lZ r6.2) (fun r7 => of d (fun e8 => ox (f_F3 k e8 0 0 lZ r7.2.1) (fun r8 => f_F3 k d 2 5 (lI (lI L 1 r3.1.2) 2 ((-1))) r8.2.1))))))))) else (f_F3 k d 2 5 L σ)) := rfl
theorem fi_5 (k d : Nat) (L : LV) (σ : CS) : f_F3 (k + 1) d 2 5 L σ = (ox (f_X5_closes k 0 (lI lZ 1 38) σ) (fun r1 => if ((L.1 2)) = ((-1)) then (f_F3 k d 2 6 L r1.2.1) else (oP (sPp r1.2.1) (fun b3 => oP (sPp r1.2.1) (fun b4 => op (y_X7_aim__P k 0 (lI (lI (lB lZ 0 b3) 1 ((L.1 2))) 2 ((r1.2.1.1 (fP b4 1)))) r1.2.1) (fun r5 => f_F3 k d 2 6 L r5.2)))))) := rfl
theorem fi_6 (k d : Nat) (L : LV) (σ : CS) : f_F3 (k + 1) d 2 6 L σ = (op (y_X5_aimAll k 0 (lI lZ 1 ((L.1 1))) σ) (fun r1 => some ((0, 0), r1.2, (0, 0)))) := rfl
theorem c_ifEnd {ow : Option Nat} {r : Nat × Nat × Nat} (hi : IfSt T n b u al gl Pc Vm σ a1 a2 tb o mk w lo qh N q v st0 ow r L τ) (n10 : n ≤ 10240) (hN : 2 * N + 7 * (n - q) + 110 ≤ 73728) (ho : o < 20) : Tm (fun k => f_F3 k d 2 5 L τ) (ZPo b u tb.length N mk (lbZ T n (some r)) (fun r _ τ => S1W T n b u al gl Pc Vm tb o mk N q v w st0 lo qh (bdO o v) r τ) σ a1 a2) := by
  obtain ⟨cs, js, es, ns, s1, ix, ⟨ln, lns, les⟩, ⟨lq, lv⟩, l1, l2⟩ := hi
  have go := tk_go s1.1.1
  by_cases k38 : tkK T n r.1 = 38 ∧ ¬ tkK T n (tkN T n r.1) = 0
  case neg =>
    have e : lbZ T n (some r) = none := if_neg k38
    rw [e]
    refine Tm_suc (fun k => fi_5 k _ _ _) ?_
    exact zt_closes (kk := 38) (C := False) s1 (by decide) rfl (Or.inl ⟨k38, rfl⟩) (fun _ _ _ _ c _ _ => c.elim)
  have e : lbZ T n (some r) = some (tkN T n r.1, r.2.1, r.2.2) := if_pos k38
  rw [e]
  have g2 := go.2.2 (by omega)
  -- all that waits for the end comes there
  have b6 : ∀ (τ3 : CS) (n1 n2 : Nat) (cs3 : List Int32), Zy T n b u al σ tb.length N mk n1 n2 tb o (tkN T n r.1) r.2.1 mk w r.2.2 lo (hdQ N qh js) N cs3 τ3 → cs3.length = cs.length → JsC N cs3 es → (∀ i, i < cs.length → ¬ ow = some i → cs3.getD i 0 = cs.getD i 0) → (∀ i, ow = some i → cs3.getD i 0 = em 4 (nI (cs.length - i))) → (∀ i, ow = some i → ¬ i ∈ es) → Tm (fun k => f_F3 k d 2 6 L τ3) (ZPo b u tb.length N mk (some (tkN T n r.1, r.2.1, r.2.2)) (fun r _ τ => S1W T n b u al gl Pc Vm tb o mk N q v w st0 lo qh (bdO o v) r τ) σ n1 n2) := by
    intro τ3 n1 n2 cs3 s3 l3 jc3 h1 h2 h3
    refine Tm_suc (fun k => fi_6 k _ _ _) ?_
    have t6 : Tm (fun k => y_X5_aimAll k 0 (lI lZ 1 (L.1 1)) τ3) (fun r' => Sy T n b u al τ3 tb.length N mk 0 0 tb o (tkN T n r.1) r.2.1 mk 0 N (jsF cs3 es) r'.2) := by
      refine Tm_suc (fun k => by rw [y_X5_aimAll]) ?_
      exact c_aimAll (cs := cs3) (Nat.le_refl _) (by omega) es 0 cs3 τ3 _ (by omega) (by omega) jc3 l1 rfl (Sy_z s3)
    refine Tm_op t6 (fun r7 z7 => ?_)
    have s7 := Zy_s s3 z7 (Nat.le_refl _)
    have lf := jsF_l es cs3
    have jg := jsF_g es cs3 jc3
    obtain ⟨ty, jt⟩ := IfX_end (cs2 := jsF cs3 es) ix (by omega) (fun i hi hn hw => by rw [(jg i).2 hn]; exact h1 i hi hw) (fun i hi => by rw [(jg i).1 hi, l3]) (fun i hi => by rw [(jg i).2 (h3 i hi)]; exact h2 i hi)
    refine Tm_some (Zfin s7 ⟨jsF cs3 es, js, ns, s7.1.1, s7.2.1, s7.2.2, Stm_w ty (by unfold bdO; omega) (Nat.le_refl _), jt, ⟨?_, lns, ix.2.2.2.2⟩, ?_, lv⟩)
    · rw [lf, l3]
      show 2 * cs.length ≤ 7 * (tkN T n r.1 - q) + 2
      omega
    · show q < tkN T n r.1
      omega
  refine Tm_suc (fun k => fi_5 k _ _ _) ?_
  refine zt_closes (kk := 38) (C := True) s1 (by decide) rfl (Or.inr ⟨k38, trivial⟩) (fun τ2 ret2 n1 n2 _ s2 xk2 => ?_)
  rcases l2 with ⟨e1, e2⟩ | ⟨h, e1, e2⟩
  · refine Tm_yes e2 ?_
    exact b6 τ2 _ _ cs s2 rfl ix.2.1 (fun i _ _ => rfl) (fun i z => by rw [e1] at z; cases z) (fun i z => by rw [e1] at z; cases z)
  · rw [e1] at ix
    have hh := (IfX_go ix 0 []).1
    rw [e2]
    refine Tm_no (n_mn (by omega)) ?_
    refine Tm_oP (Zy_pp s2) (Tm_oP (Zy_pp s2) ?_)
    have es2 : τ2.1 (fP b 1) = nI (N + cs.length) := s2.1.1.2.1.1
    refine Tm_op (c_aim (op := 4) (x := 0) (h := h) (Sy_z s2) (Nat.le_refl _) hh.1 (by decide) (ix.2.2.2.1 h rfl) rfl rfl) (fun r3 z3 => ?_)
    have ew : (lI (lI (lB lZ 0 b) 1 (nI (N + h))) 2 (τ2.1 (fP b 1))).1 2 - (lI (lI (lB lZ 0 b) 1 (nI (N + h))) 2 (τ2.1 (fP b 1))).1 1 = nI (cs.length - h) := by
      show τ2.1 (fP b 1) - nI (N + h) = _
      rw [es2, n_sub (by omega) (by omega)]
      exact congrArg nI (by omega)
    have z3' : Sy T n b u al τ2 tb.length N mk 0 0 tb o (tkN T n r.1) r.2.1 mk 0 N (cs.set h (em 4 (nI (cs.length - h)))) r3.2 := by rw [← ew]; exact z3
    have s3 := Zy_s s2 z3' (Nat.le_refl _)
    have ls : (cs.set h (em 4 (nI (cs.length - h)))).length = cs.length := List.length_set
    refine b6 r3.2 _ _ (cs.set h (em 4 (nI (cs.length - h)))) s3 ls (JsC_set es cs h (fun i hi z => hh.2.1 (z ▸ hi)) ix.2.1) (fun i hi hn => ?_) (fun i z => ?_) (fun i z => ?_)
    · rw [gd_set, if_neg (fun y => hn (by rw [e1, y.1]))]
    · rw [e1] at z; cases z
      rw [gd_set, if_pos ⟨rfl, hh.1⟩]
    · rw [e1] at z; cases z
      exact hh.2.1
theorem n_ss1 {N a h : Nat} (h1 : h ≤ a) (h2 : N + a < 2147483648) : nI (N + a) - nI (N + h) = nI (a - h) := by
  rw [n_sub (by omega) (by omega)]
  exact congrArg nI (by omega)
/-- what comes behind the branches -/
def KIf (T : Nat → Int32) (n : Nat) (MD : Nat → Nat → Nat) (fK : Nat) (E : En) (lp o b0 : Nat) (r : ST) : SR := hb (if tkK T n r.1 = 42 then hT T n r.1 (fun q2 => hb (GS T n MD fK 0 E lp (o + 1) q2 r.2.1 (nI b0) 0 0 r.2.2.2.2.1 r.2.2.2.2.2) (fun t => some (some (t.1, t.2.1, 0, 0, bSet (bNode t.2.2.2.2.1 33 (-2) (hd t.2.2.2.1) 0) 9 r.2.2.2.1 (nI t.2.2.2.2.1.1), t.2.2.2.2.2)))) else some (some r)) (fun t => hE T n t.1 (fun q3 => some (some (q3, t.2.1, 0, b0, t.2.2.2.2.1, t.2.2.2.2.2))))
/-- what an if stands in -/
def IfC (T : Nat → Int32) (n : Nat) (E : En) (b : Bool) (u al : Nat) (gl : Nat × (Nat → Nat → Prop)) (Vm : Nat → Prop) (Pc : Nat → Nat → Prop) (MD : Nat → Nat → Nat) (tb : List Ent) (lp : Nat) (lo : Option Nat) (o mk w N q v d : Nat) (σ : CS) : Prop := CxS n E b u al gl Vm Pc MD tb lp lo σ ∧ BdB n o q v mk N w tb.length ∧ 4 * (20 - (o + 1)) + 1 ≤ d ∧ o < 20
theorem c_ifElse {fK : Nat} {r : ST} {y : Option ST} (pb : PBk T n b u al MD fK) (hq : r.1 ≤ n) (hv : r.2.1 ≤ 60) (hs : r.2.2.2.2.2.1 ≤ 400) (hB1 : 1 ≤ r.2.2.2.2.1.1) (hG : KIf T n MD fK E lp o b0 r = some y) : ∃ z, SemS T n y z ∧ ∀ (d : Nat) (gl : Nat × (Nat → Nat → Prop)) (Pc : Nat → Nat → Prop) (Vm : Nat → Prop) (tb : List Ent) (mk N w q v st0 h a1 a2 : Nat) (lo : Option Nat) (qh : Int32) (σ τ : CS) (L : LV), IfC T n E b u al gl Vm Pc MD tb lp lo o mk w N q v d σ → IfSt T n b u al gl Pc Vm σ a1 a2 tb o mk w lo qh N q v st0 (some h) (r.1, r.2.1, r.2.2.2.2.2.1) L τ → Tm (fun k => f_F3 k (d + 1) 2 4 L τ) (ZPo b u tb.length N mk z (fun r _ τ => S1W T n b u al gl Pc Vm tb o mk N q v w st0 lo qh (bdO o v) r τ) σ a1 a2) := by
  unfold KIf at hG
  by_cases k42 : tkK T n r.1 = 42
  case neg =>
    rw [if_neg k42] at hG
    refine ⟨lbZ T n (some (r.1, r.2.1, r.2.2.2.2.2.1)), hE_z (x := some r) (Or.inr ⟨_, rfl, Or.inr ⟨r, rfl, rfl, rfl, rfl⟩⟩) hG, fun d gl Pc Vm tb mk N w q v st0 h a1 a2 lo qh σ τ L ic hi => ?_⟩
    have kv : ∃ sz, QS T n b u al tb (o + 1) r.1 r.2.1 mk 0 sz τ := by
      obtain ⟨cs, js, es, ns, s1, _⟩ := hi
      exact ⟨_, s1.1.1⟩
    obtain ⟨sz, kv⟩ := kv
    refine Tm_suc (fun k => fi_4 k _ _ _) ?_
    refine Tm_no (fun z => k42 ((lx_k (kk := 42) kv (by decide)).1 z)) ?_
    exact c_ifEnd hi ic.1.1.2.2.2.2 ic.2.1.1 ic.2.2.2
  rw [if_pos k42] at hG
  have tb1 := tkN_b T n r.1 hq
  have g1 := tb1.2.2.2 (by omega)
  -- the jump to the end; the next branch begins
  have go : ∀ (d : Nat) (gl : Nat × (Nat → Nat → Prop)) (Pc : Nat → Nat → Prop) (Vm : Nat → Prop) (tb : List Ent) (mk N w q v st0 h a1 a2 : Nat) (lo : Option Nat) (qh : Int32) (σ τ : CS) (L : LV) (zF : Option (Nat × Nat × Nat)), IfC T n E b u al gl Vm Pc MD tb lp lo o mk w N q v d σ → IfSt T n b u al gl Pc Vm σ a1 a2 tb o mk w lo qh N q v st0 (some h) (r.1, r.2.1, r.2.2.2.2.2.1) L τ → (∀ (τ2 : CS) (n1 n2 : Nat) (cs : List Int32) (js es : List Nat) (ns : Nat), Zy T n b u al σ tb.length N mk n1 n2 tb (o + 1) r.1 r.2.1 mk w r.2.2.2.2.2.1 lo (hdQ N qh js) N (cs.set h (em 4 (nI (cs.length + 1 - h))) ++ [em 3 (nI (jsH N es))]) τ2 → IfX u gl Pc Vm w N lo qh (bdO (o + 1) v) ns js es (some h) cs → 2 * cs.length ≤ 7 * (r.1 - q) → ns + st0 ≤ r.2.2.2.2.2.1 + 1 → es.length ≤ r.1 → q < r.1 → v ≤ r.2.1 → Tm (fun k => ox (f_X2_advance k 0 lZ τ2) (fun r7 => of (d + 1) (fun e8 => ox (f_F3 k e8 0 0 lZ r7.2.1) (fun r8 => f_F3 k (d + 1) 2 5 (lI (lI L 1 (nI (N + cs.length))) 2 ((-1))) r8.2.1)))) (ZPo b u tb.length N mk zF (fun r _ τ => S1W T n b u al gl Pc Vm tb o mk N q v w st0 lo qh (bdO o v) r τ) σ n1 n2)) → Tm (fun k => f_F3 k (d + 1) 2 4 L τ) (ZPo b u tb.length N mk zF (fun r _ τ => S1W T n b u al gl Pc Vm tb o mk N q v w st0 lo qh (bdO o v) r τ) σ a1 a2) := by
    intro d gl Pc Vm tb mk N w q v st0 h a1 a2 lo qh σ τ L zF ic hi cont
    obtain ⟨cs, js, es, ns, s1, ix, ⟨ln, lns, les⟩, ⟨lq, lv⟩, l1, l2⟩ := hi
    have ln' : 2 * cs.length ≤ 7 * (r.1 - q) := ln
    have lq' : q < r.1 := lq
    have n10 := ic.1.1.2.2.2.2
    have hN := ic.2.1.1
    have l2' : L.1 2 = nI (N + h) := by
      rcases l2 with ⟨e, _⟩ | ⟨h', e, e2⟩
      · cases e
      · cases e; exact e2
    have hh := (IfX_go ix 0 []).1
    refine Tm_suc (fun k => fi_4 k _ _ _) ?_
    refine Tm_yes ((lx_k (kk := 42) s1.1.1 (by decide)).2 k42) ?_
    refine Tm_oP (Zy_pp s1) ?_
    rw [l1, l2']
    refine zt_emit (op := 3) s1 rfl rfl (by omega) (fun τ2 n1 n2 s2 xk2 => ?_)
    refine Tm_oP (Zy_pp s2) (Tm_oP (Zy_pp s2) ?_)
    have s2' : Zy T n b u al σ tb.length N mk (a1 + n1) (a2 + n2) tb (o + 1) r.1 r.2.1 mk w r.2.2.2.2.2.1 lo (hdQ N qh js) N (cs ++ [em 3 (nI (jsH N es))]) τ2 := s2
    have le : (cs ++ [em 3 (nI (jsH N es))]).length = cs.length + 1 := by rw [List.length_append]; rfl
    have es2 : τ2.1 (fP b 1) = nI (N + (cs.length + 1)) := by have z := s2'.1.1.2.1.1; rw [le] at z; exact z
    refine Tm_op (c_aim (op := 4) (x := 0) (h := h) (Sy_z s2') (Nat.le_refl _) (by rw [le]; omega) (by decide) (by rw [gd_l hh.1]; exact ix.2.2.2.1 h rfl) rfl rfl) (fun r3 z3 => ?_)
    have ew : (lI (lI (lB lZ 0 b) 1 (nI (N + h))) 2 (τ2.1 (fP b 1))).1 2 - (lI (lI (lB lZ 0 b) 1 (nI (N + h))) 2 (τ2.1 (fP b 1))).1 1 = nI (cs.length + 1 - h) := by
      show τ2.1 (fP b 1) - nI (N + h) = _
      rw [es2]; exact n_ss1 (by omega) (by omega)
    have z3' : Sy T n b u al τ2 tb.length N mk 0 0 tb (o + 1) r.1 r.2.1 mk 0 N (cs.set h (em 4 (nI (cs.length + 1 - h))) ++ [em 3 (nI (jsH N es))]) r3.2 := by
      rw [← set_l _ _ _ hh.1, ← ew]; exact z3
    have s3 := Zy_s s2' z3' (Nat.le_refl _)
    exact cont r3.2 _ _ cs js es ns s3 ix ln lns les lq lv
  have hG2 := hG
  unfold hT at hG2
  by_cases w1 : tkK T n (tkN T n r.1) = 0
  · rw [if_pos w1] at hG2
    refine ⟨none, Or.inl ⟨rfl, (Option.some.inj hG2).symm⟩, fun d gl Pc Vm tb mk N w q v st0 h a1 a2 lo qh σ τ L ic hi => go d gl Pc Vm tb mk N w q v st0 h a1 a2 lo qh σ τ L none ic hi (fun τ2 n1 n2 cs js es ns s2 ix ln lns les lq lv => ?_)⟩
    exact zt_adv (C := False) s2 (Or.inl ⟨w1, rfl⟩) (fun _ _ _ _ c _ _ => c.elim)
  rw [if_neg w1] at hG2
  have gz : ∃ x, GS T n MD fK 0 E lp (o + 1) (tkN T n r.1) r.2.1 (nI b0) 0 0 r.2.2.2.2.1 r.2.2.2.2.2 = some x := by
    rcases hb_any hG2 with ⟨y1, _⟩ | ⟨_, y1, _⟩
    · rcases hb_any y1 with ⟨y2, _⟩ | ⟨_, y2, _⟩
      · exact ⟨_, y2⟩
      · exact ⟨_, y2⟩
    · rcases hb_any y1 with ⟨y2, _⟩ | ⟨_, y2, _⟩
      · exact ⟨_, y2⟩
      · exact ⟨_, y2⟩
  obtain ⟨x, hx⟩ := gz
  have hG3 : hb (some x) (fun t => hE T n t.1 (fun q3 => some (some (q3, t.2.1, 0, b0, bSet (bNode t.2.2.2.2.1 33 (-2) (hd t.2.2.2.1) 0) 9 r.2.2.2.1 (nI t.2.2.2.2.1.1), t.2.2.2.2.2)))) = some y := by
    have z : hb (hb (GS T n MD fK 0 E lp (o + 1) (tkN T n r.1) r.2.1 (nI b0) 0 0 r.2.2.2.2.1 r.2.2.2.2.2) (fun t => some (some (t.1, t.2.1, 0, 0, bSet (bNode t.2.2.2.2.1 33 (-2) (hd t.2.2.2.1) 0) 9 r.2.2.2.1 (nI t.2.2.2.2.1.1), t.2.2.2.2.2)))) (fun t => hE T n t.1 (fun q3 => some (some (q3, t.2.1, 0, b0, t.2.2.2.2.1, t.2.2.2.2.2)))) = some y := hG2
    rw [hx] at z
    cases x with
    | none => exact z
    | some t => exact z
  obtain ⟨z, bz, run⟩ := pb E lp (o + 1) (tkN T n r.1) r.2.1 (nI b0) 0 0 _ _ x tb1.2.1 hv hs hB1 hx
  refine ⟨lbZ T n z, hE_z bz hG3, fun d gl Pc Vm tb mk N w q v st0 h a1 a2 lo qh σ τ L ic hi => go d gl Pc Vm tb mk N w q v st0 h a1 a2 lo qh σ τ L _ ic hi (fun τ2 n1 n2 cs js es ns s2 ix ln lns les lq lv => ?_)⟩
  obtain ⟨cx, ⟨bd1, bd2, bd3, bd4⟩, hd, ho⟩ := ic
  have n10 := cx.1.2.2.2.2
  have ls : (cs.set h (em 4 (nI (cs.length + 1 - h))) ++ [em 3 (nI (jsH N es))]).length = cs.length + 1 := by rw [List.length_append, List.length_set]; rfl
  refine zt_adv (C := True) s2 (Or.inr ⟨w1, trivial⟩) (fun τ3 ret3 n3 n4 _ s3 xk3 => ?_)
  refine Tm_d ?_
  have go3 := tk_go s3.1.1
  have bdb : BdB n (o + 1) (tkN T n r.1) r.2.1 mk (N + (cs.set h (em 4 (nI (cs.length + 1 - h))) ++ [em 3 (nI (jsH N es))]).length) w tb.length := ⟨by rw [ls]; omega, by omega, by omega, by omega⟩
  refine zt_callZ (C := True) s3 (run d gl Pc Vm tb mk _ w lo (hdQ N qh js) τ3 lZ s3.1.1 s3.2.2 (CxS_k cx s3.1.2.1) bdb hd) ?_
  cases z with
  | none => exact Or.inl ⟨rfl, rfl⟩
  | some t =>
    refine Or.inr ⟨t, rfl, trivial, fun τ4 ret4 n5 n6 hr zk4 hc4 => ?_⟩
    obtain ⟨bo, qb, nb, r1, r2, r3, r4, r5, ⟨r6, r6', r6''⟩, r7, r8⟩ := hr
    have s4 := Zy_ca (ll := bo) s3 r1 zk4 hc4 r2 (Nat.le_refl _) (Nat.le_refl _) r3
    have go4 := tk_go s4.1.1
    rw [ls] at r4 r5
    have r4' := Stm_w r4 (Bd' := bdO (o + 1) v) (by unfold bdO; omega) (Nat.le_refl _)
    obtain ⟨ix2, hd2⟩ := IfX_l ix r4' r5 r6''
    have ea : cs.set h (em 4 (nI (cs.length + 1 - h))) ++ [em 3 (nI (jsH N es))] ++ bo = cs.set h (em 4 (nI (cs.length + 1 - h))) ++ (em 3 (nI (jsH N es)) :: bo) := by rw [List.append_assoc]; rfl
    have s4' : Zy T n b u al σ tb.length N mk (n1 + n3 + n5) (n2 + n4 + n6) tb (o + 1) t.1 t.2.1 mk w t.2.2 lo (hdQ N qh (shQ (cs.length + 1) qb ++ js)) N (cs.set h (em 4 (nI (cs.length + 1 - h))) ++ (em 3 (nI (jsH N es)) :: bo)) τ4 := by
      have z := s4
      rw [ls] at z
      rw [hd2, ← ea]; exact z
    have lf : (cs.set h (em 4 (nI (cs.length + 1 - h))) ++ (em 3 (nI (jsH N es)) :: bo)).length = cs.length + 1 + bo.length := by rw [← ea, List.length_append, ls]
    refine c_ifEnd (ow := none) (r := t) ⟨_, _, cs.length :: es, _, s4', ix2, ⟨by rw [lf]; omega, by omega, by show es.length + 1 ≤ t.1; omega⟩, ⟨by omega, by omega⟩, rfl, Or.inl ⟨rfl, rfl⟩⟩ n10 bd1 ho
end CXU
