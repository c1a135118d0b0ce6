/-! The class: ifs are read, their branches one behind another. -/
section CXV
variable {σ σ' σ0 τ τ' τ0 : CS} {L : LV} {b : Bool} {T : Nat → Int32} {n q q' u al o v mk mk' p sz sz' szB szE nc nc0 sz0 mk0 a1 a2 m kk f e s0 ow a t0 g D w st w' st' M nm deep vv np lp N Bd ns nb k d P h st0 b0 it : Nat} {y qh qh' y0 y1 wd x0 x1 x3 : Int32} {l l' cs cs' cs2 ll lt lt0 co bo : List Int32} {tb : List Ent} {E : En} {gl : Nat × (Nat → Nat → Prop)} {Vm : Nat → Prop} {Pc : Nat → Nat → Prop} {MD : Nat → Nat → Nat} {md : Nat → Nat} {bt : BT} {ks qs qs' qa qb js es qsI : List Nat} {lo lo' : Option Nat} {s : SB}
/-- then, a branch's statements, and on -/
def ifT (d : Nat) (L : LV) (x1 x3 : Int32) (τ : CS) (k : Nat) : Option RS := ox (f_X5_expect k 0 (lI lZ 1 40) τ) (fun r1 => oP (sPp r1.2.1) (fun b2 => ox (f_X7_emit__P k 0 (lI (lI (lB lZ 0 b2) 1 4) 2 0) r1.2.1) (fun r3 => of d (fun e4 => ox (f_F3 k e4 0 0 lZ r3.2.1) (fun r4 => f_F3 k d 2 3 (lI (lI (lI L 1 x1) 2 r3.1.2) 3 x3) r4.2.1)))))
/-- how an if stands before a then -/
def IfP (T : Nat → Int32) (n : Nat) (b : Bool) (u al : Nat) (gl : Nat × (Nat → Nat → Prop)) (Pc : Nat → Nat → Prop) (Vm : Nat → Prop) (σ : CS) (a1 a2 : Nat) (tb : List Ent) (o mk w : Nat) (lo : Option Nat) (qh : Int32) (N q v st0 cq cv st : Nat) (x1 : Int32) (τ : CS) : Prop := ∃ (cs : List Int32) (qh0 : Int32) (es : List Nat) (n1 : Nat), Zy T n b u al σ tb.length N mk a1 a2 tb (o + 1) cq cv mk w st lo qh0 N cs τ ∧ (∀ (bo : List Int32) (qb : List Nat) (nb : Nat), Stm u gl Pc Vm w (N + (cs.length + 1)) lo (bdO (o + 1) v) nb qb bo → JsT (N + (cs.length + 1)) bo qh0 qb → qb.length ≤ lqN lo nb → ∃ js, IfX u gl Pc Vm w N lo qh (bdO (o + 1) v) (n1 + nb) js es (some cs.length) (cs ++ (em 4 0 :: bo)) ∧ hdQ N qh js = hdQ (N + (cs.length + 1)) qh0 qb) ∧ (2 * cs.length ≤ 7 * (cq - q) ∧ n1 + st0 ≤ st + 1 ∧ es.length ≤ cq) ∧ (q < cq ∧ v ≤ cv) ∧ x1 = nI (jsH N es)
theorem c_ifBr {z1 zF : Option (Nat × Nat × Nat)} {cq cv : Nat} (ic : IfC T n E b u al gl Vm Pc MD tb lp lo o mk w N q v d σ) (ip : IfP T n b u al gl Pc Vm σ a1 a2 tb o mk w lo qh N q v st0 cq cv st x1 τ) (k40 : tkK T n cq = 40 ∧ ¬ tkK T n (tkN T n cq) = 0) (run : ∀ (mk N w : Nat) (lo : Option Nat) (qh : Int32) (σ : CS), QS T n b u al tb (o + 1) (tkN T n cq) cv mk 0 N σ → ZF b u w st lo qh σ → CxS n E b u al gl Vm Pc MD tb lp lo σ → BdB n (o + 1) (tkN T n cq) cv mk N w tb.length → Tm (fun k => f_F3 k d 0 0 lZ σ) (ZPo b u tb.length N mk z1 (fun r _ τ => BlR T n b u al gl Pc Vm tb (o + 1) mk N (tkN T n cq) cv w st lo qh r τ) σ 0 0)) (h0 : z1 = none → zF = none) (hs : ∀ (r : Nat × Nat × Nat), z1 = some r → ∀ (τ' : CS) (L' : LV) (n1 n2 h : Nat), IfSt T n b u al gl Pc Vm σ n1 n2 tb o mk w lo qh N q v st0 (some h) r L' τ' → L'.1 3 = x3 → cq < r.1 → Tm (fun k => f_F3 k (d + 1) 2 3 L' τ') (ZPo b u tb.length N mk zF (fun r _ τ => S1W T n b u al gl Pc Vm tb o mk N q v w st0 lo qh (bdO o v) r τ) σ n1 n2)) : Tm (fun k => ifT (d + 1) L x1 x3 τ k) (ZPo b u tb.length N mk zF (fun r _ τ => S1W T n b u al gl Pc Vm tb o mk N q v w st0 lo qh (bdO o v) r τ) σ a1 a2) := by
  obtain ⟨cs, qh0, es, n0, s1, ix, ⟨ln, lns, les⟩, ⟨lq, lv⟩, l1⟩ := ip
  obtain ⟨cx, ⟨bd1, bd2, bd3, bd4⟩, hd, ho⟩ := ic
  have n10 := cx.1.2.2.2.2
  have go := tk_go s1.1.1
  have g2 := go.2.2 (by omega)
  unfold ifT
  refine zt_expect (kk := 40) (C := True) s1 (by decide) rfl (Or.inr ⟨k40, trivial⟩) (fun τ2 ret2 n1 n2 _ s2 xk2 => ?_)
  refine Tm_oP (Zy_pp s2) ?_
  refine zt_emit (op := 4) s2 rfl rfl (by omega) (fun τ3 n3 n4 s3 xk3 => ?_)
  have s3' : Zy T n b u al σ tb.length N mk (a1 + n1 + n3) (a2 + n2 + n4) tb (o + 1) (tkN T n cq) cv mk w st lo qh0 N (cs ++ [em 4 0]) τ3 := s3
  have ls : (cs ++ [em 4 0]).length = cs.length + 1 := by rw [List.length_append]; rfl
  have go3 := tk_go s3'.1.1
  refine Tm_d ?_
  have bdb : BdB n (o + 1) (tkN T n cq) cv mk (N + (cs ++ [em 4 0]).length) w tb.length := ⟨by rw [ls]; omega, by omega, by omega, by omega⟩
  refine zt_callZ (C := True) s3' (run mk _ w lo qh0 τ3 s3'.1.1 s3'.2.2 (CxS_k cx s3'.1.2.1) bdb) ?_
  cases z1 with
  | none => exact Or.inl ⟨rfl, h0 rfl⟩
  | some t =>
    refine Or.inr ⟨t, rfl, trivial, fun τ4 ret4 n5 n6 hr zk4 hc4 => ?_⟩
    obtain ⟨bo, qb, nb, r1, r2, r3, r4, r5, ⟨r6, r6', r6''⟩, r7, r8⟩ := hr
    have s4 := Zy_ca (ll := bo) s3' r1 zk4 hc4 r2 (Nat.le_refl _) (Nat.le_refl _) r3
    have go4 := tk_go s4.1.1
    rw [ls] at r4 r5
    have r4' := Stm_w r4 (Bd' := bdO (o + 1) v) (by unfold bdO; omega) (Nat.le_refl _)
    obtain ⟨js, ix2, hd2⟩ := ix bo qb nb r4' r5 r6''
    have ea : cs ++ [em 4 0] ++ bo = cs ++ (em 4 0 :: bo) := by rw [List.append_assoc]; rfl
    have s4' : Zy T n b u al σ tb.length N mk (a1 + n1 + n3 + n5) (a2 + n2 + n4 + n6) tb (o + 1) t.1 t.2.1 mk w t.2.2 lo (hdQ N qh js) N (cs ++ (em 4 0 :: bo)) τ4 := by
      have z := s4
      rw [ls] at z
      rw [hd2, ← ea]; exact z
    have lf : (cs ++ (em 4 0 :: bo)).length = cs.length + 1 + bo.length := by rw [← ea, List.length_append, ls]
    exact hs t rfl τ4 _ _ _ cs.length ⟨_, _, es, _, s4', ix2, ⟨by rw [lf]; omega, by omega, by omega⟩, ⟨by omega, by omega⟩, l1, Or.inr ⟨cs.length, rfl, rfl⟩⟩ rfl (by omega)
/-- branches, as the grammar has them, from a then on -/
def PI3 (T : Nat → Int32) (n : Nat) (b : Bool) (u al : Nat) (MD : Nat → Nat → Nat) (f : Nat) : Prop := ∀ (fK : Nat) (E : En) (lp o b0 i cq cv : Nat) (bc : BT) (b3 : ST → BT) (s : SB) (y : Option ST), PBk T n b u al MD fK → cq ≤ n → cv ≤ 60 → s.1 ≤ 400 → 1 ≤ bc.1 → (∀ t : ST, 1 ≤ (b3 t).1) → hb (hW T n 40 cq (fun q2 => hb (GS T n MD f 0 E lp (o + 1) q2 cv (nI i) 0 0 bc s) (fun t => if tkK T n t.1 = 41 then hT T n t.1 (fun q3 => GS T n MD f 3 E lp (o + 1) q3 t.2.1 0 i t.2.2.2.2.1.1 (b3 t) t.2.2.2.2.2) else some (some (t.1, t.2.1, 0, t.2.2.2.2.1.1, b3 t, t.2.2.2.2.2))))) (KIf T n MD fK E lp o b0) = some y → ∃ z, SemS T n y z ∧ ∀ (d : Nat) (gl : Nat × (Nat → Nat → Prop)) (Pc : Nat → Nat → Prop) (Vm : Nat → Prop) (tb : List Ent) (mk N w q v st0 a1 a2 it : Nat) (lo : Option Nat) (qh x1 : Int32) (σ τ : CS) (L : LV), IfC T n E b u al gl Vm Pc MD tb lp lo o mk w N q v d σ → IfP T n b u al gl Pc Vm σ a1 a2 tb o mk w lo qh N q v st0 cq cv s.1 x1 τ → it ≤ cq → Tm (fun k => ifT (d + 1) L x1 (nI it) τ k) (ZPo b u tb.length N mk z (fun r _ τ => S1W T n b u al gl Pc Vm tb o mk N q v w st0 lo qh (bdO o v) r τ) σ a1 a2)
/-- elseif: up to its condition -/
theorem c_ifEx {r : Nat × Nat × Nat} {zF : Option (Nat × Nat × Nat)} {y0 : Option RT} (ic : IfC T n E b u al gl Vm Pc MD tb lp lo o mk w N q v d σ) (hi : IfSt T n b u al gl Pc Vm σ a1 a2 tb o mk w lo qh N q v st0 (some h) r L τ) (l3 : L.1 3 = nI it) (hit : it < r.1) (k41 : tkK T n r.1 = 41) (hN : tkK T n (tkN T n r.1) = 0 → zF = none) (hG : ¬ tkK T n (tkN T n r.1) = 0 → G T n f 0 E (o + 1) (tkN T n r.1) r.2.1 0 0 0 0 bt = some y0) (h0 : y0 = none → zF = none) (hs : ¬ tkK T n (tkN T n r.1) = 0 → ∀ (c : RT), y0 = some c → ∀ (τ' : CS) (n1 n2 : Nat) (x1 : Int32), IfP T n b u al gl Pc Vm σ n1 n2 tb o mk w lo qh N q v st0 c.1 c.2.1 r.2.2 x1 τ' → it + 1 ≤ c.1 → Tm (fun k => ifT (d + 1) L x1 (nI (it + 1)) τ' k) (ZPo b u tb.length N mk zF (fun r _ τ => S1W T n b u al gl Pc Vm tb o mk N q v w st0 lo qh (bdO o v) r τ) σ n1 n2)) : Tm (fun k => f_F3 k (d + 1) 2 3 L τ) (ZPo b u tb.length N mk zF (fun r _ τ => S1W T n b u al gl Pc Vm tb o mk N q v w st0 lo qh (bdO o v) r τ) σ a1 a2) := by
  obtain ⟨cs, js, es, ns, s1, ix, ⟨ln, lns, les⟩, ⟨lq, lv⟩, l1, l2⟩ := hi
  obtain ⟨cx, ⟨bd1, bd2, bd3, bd4⟩, hd, ho⟩ := ic
  have n10 := cx.1.2.2.2.2
  have go := tk_go s1.1.1
  have g2 := go.2.2 (by omega)
  have l2' : L.1 2 = nI (N + h) := by
    rcases l2 with ⟨e, _⟩ | ⟨h', e, e2⟩
    · cases e
    · cases e; exact e2
  have hh := (IfX_go ix 0 []).1
  refine Tm_suc (fun k => fi_3 k _ _ _) ?_
  refine Tm_no (fun z => by rw [l3] at z; exact absurd ((n_lt (p := 32768) (q := it) (by decide) (by omega)).1 z) (by omega)) ?_
  refine Tm_yes ((lx_k (kk := 41) s1.1.1 (by decide)).2 k41) ?_
  refine Tm_oP (Zy_pp s1) ?_
  rw [l1, l2', l3, n_add1]
  refine zt_emit (op := 3) s1 rfl rfl (by omega) (fun τ2 n1 n2 s2 xk2 => ?_)
  refine Tm_oP (Zy_pp s2) (Tm_oP (Zy_pp s2) ?_)
  have s2' : Zy T n b u al σ tb.length N mk (a1 + n1) (a2 + n2) tb (o + 1) r.1 r.2.1 mk w r.2.2 lo (hdQ N qh js) N (cs ++ [em 3 (nI (jsH N es))]) τ2 := s2
  have le : (cs ++ [em 3 (nI (jsH N es))]).length = cs.length + 1 := by rw [List.length_append]; rfl
  have es2 : τ2.1 (fP b 1) = nI (N + (cs.length + 1)) := by have z := s2'.1.1.2.1.1; rw [le] at z; exact z
  refine Tm_op (c_aim (op := 4) (x := 0) (h := h) (Sy_z s2') (Nat.le_refl _) (by rw [le]; omega) (by decide) (by rw [gd_l hh.1]; exact ix.2.2.2.1 h rfl) rfl rfl) (fun r3 z3 => ?_)
  have ew : (lI (lI (lB lZ 0 b) 1 (nI (N + h))) 2 (τ2.1 (fP b 1))).1 2 - (lI (lI (lB lZ 0 b) 1 (nI (N + h))) 2 (τ2.1 (fP b 1))).1 1 = nI (cs.length + 1 - h) := by
    show τ2.1 (fP b 1) - nI (N + h) = _
    rw [es2]; exact n_ss1 (by omega) (by omega)
  have z3' : Sy T n b u al τ2 tb.length N mk 0 0 tb (o + 1) r.1 r.2.1 mk 0 N (cs.set h (em 4 (nI (cs.length + 1 - h))) ++ [em 3 (nI (jsH N es))]) r3.2 := by
    rw [← set_l _ _ _ hh.1, ← ew]; exact z3
  have s3 := Zy_s s2' z3' (Nat.le_refl _)
  have ls : (cs.set h (em 4 (nI (cs.length + 1 - h))) ++ [em 3 (nI (jsH N es))]).length = cs.length + 1 := by rw [List.length_append, List.length_set]; rfl
  by_cases w1 : tkK T n (tkN T n r.1) = 0
  · exact zt_adv (C := False) s3 (Or.inl ⟨w1, hN w1⟩) (fun _ _ _ _ c _ _ => c.elim)
  refine zt_adv (C := True) s3 (Or.inr ⟨w1, trivial⟩) (fun τ4 ret4 n3 n4 _ s4 xk4 => ?_)
  have go4 := tk_go s4.1.1
  have bdx : BdX n (o + 1) (tkN T n r.1) r.2.1 mk 0 (N + (cs.set h (em 4 (nI (cs.length + 1 - h))) ++ [em 3 (nI (jsH N es))]).length) tb.length := ⟨n10, by rw [ls]; omega, by omega, by omega, by omega⟩
  cases y0 with
  | none =>
    rw [h0 rfl]
    exact zt_exp (C := True) s4 (EvX_z cx.1.1 s4.1.2.1) bdx rfl (hG w1) (Or.inl ⟨rfl, rfl⟩) (fun _ _ _ _ _ _ z => by cases z)
  | some c =>
    refine zt_exp (C := True) s4 (EvX_z cx.1.1 s4.1.2.1) bdx rfl (hG w1) (Or.inr ⟨c, rfl, trivial⟩) (fun τ5 ret5 n5 n6 r' co hzz _ s5 xk5 sg lnc lt lvc tg => ?_)
    cases hzz
    have go5 := tk_go s5.1.1
    have ea : cs.set h (em 4 (nI (cs.length + 1 - h))) ++ [em 3 (nI (jsH N es))] ++ co = cs.set h (em 4 (nI (cs.length + 1 - h))) ++ (em 3 (nI (jsH N es)) :: co) := by rw [List.append_assoc]; rfl
    have lf : (cs.set h (em 4 (nI (cs.length + 1 - h))) ++ (em 3 (nI (jsH N es)) :: co)).length = cs.length + 1 + co.length := by rw [← ea, List.length_append, ls]
    rw [ea] at s5
    refine hs w1 c rfl τ5 _ _ _ ⟨_, hdQ N qh js, cs.length :: es, ns, s5, fun bo qb nb st jt jl => ?_, ⟨by rw [lf]; omega, lns, by show es.length + 1 ≤ c.1; omega⟩, ⟨by omega, by omega⟩, rfl⟩ (by omega)
    rw [lf] at st jt ⊢
    have ee := IfX_e ix (Sst_sg (Pc := Pc) (pre := []) sg 0) st jt jl
    refine ⟨_, ?_, ee.2⟩
    have e2 : cs.set h (em 4 (nI (cs.length + 1 - h))) ++ (em 3 (nI (jsH N es)) :: co) ++ (em 4 0 :: bo) = cs.set h (em 4 (nI (cs.length + 1 - h))) ++ (em 3 (nI (jsH N es)) :: (co ++ (em 4 0 :: bo))) := by rw [List.append_assoc]; rfl
    rw [e2]
    exact ee.1
end CXV
