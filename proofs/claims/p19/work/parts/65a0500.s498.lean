section JnS498
/-! The class: statements that begin with a name are read. -/
section CXN
variable {σ σ' σ0 τ τ' τ0 : CS} {L : LV} {b : Bool} {T : Nat → Int32} {n q q' u al o v mk mk' p sz szB szE nc nc0 sz0 mk0 a1 a2 m kk f e s ow a t0 g D op w st w' st' M nm deep vv np : Nat} {y qh qh' : Int32} {l l' cs cs' ll lt lt0 : List Int32} {tb : List Ent} {E : En} {gl : Nat × (Nat → Nat → Prop)} {Vm : Nat → Prop} {Pc : Nat → Nat → Prop} {MD : Nat → Nat → Nat} {md : Nat → Nat} {bt : BT} {ks : List Nat} {lo lo' : Option Nat}
/-- behind the target of a statement -/
def TgS (T : Nat → Int32) (n : Nat) (b : Bool) (u al : Nat) (gl : Nat × (Nat → Nat → Prop)) (Vm : Nat → Prop) (σ : CS) (a1 a2 : Nat) (tb : List Ent) (o q v mk w st : Nat) (lo : Option Nat) (qh : Int32) (sz s ow : Nat) (ks : List Nat) (cs : List Int32) (r : RT) (τ : CS) : Prop := Zy T n b u al σ tb.length sz mk a1 a2 tb o r.1 r.2.1 (mk + 4 + ks.length) w st lo qh sz cs τ ∧ TgV u gl Vm s ow ∧ TgM τ mk s ow ks ∧ kOK ks ∧ Sgm u 0 gl Vm (wdN ks) cs ∧ 2 * cs.length + 2 * ks.length + 3 ≤ 3 * (r.1 - q) ∧ q < r.1 ∧ v ≤ r.2.1 ∧ r.2.2.1 = (if ks.length = 0 then 1 else 2)
/-- := .. -/
theorem c_nmAs {r : RT} {x : Fl RT} (ts : TgS T n b u al gl Vm σ a1 a2 tb o q v mk w st lo qh sz s ow ks cs r τ) (sx : StX n E b u al gl Vm Pc MD tb σ) (bd : BdS n o q v mk sz tb.length) (l4 : L.1 4 = nI sz) (l5 : L.1 5 = nI mk) (k1 : tkK T n r.1 = 1) (hG : gT T n r.1 (fun q1 => gAs0 T n f MD E o r.2.2.1 q1 r.2.1 r.2.2.2.2.1) = some x) : Tm (fun k => f_X5_nameStatement k 6 L τ) (ZPo b u tb.length sz mk (zq x) (fun r _ τ => SzR T n b u al gl Pc Vm tb o mk sz q v w st lo qh r τ) σ a1 a2) := by
  obtain ⟨s1, tv, tm, ko, sg, ln, lq, lv, ri⟩ := ts
  obtain ⟨bd1, bd2, bd3⟩ := bd
  have sx0 := sx
  obtain ⟨ev, pr, pe, n3, n10⟩ := sx
  have go := tk_go s1.1.1
  have g1 := go.2.2 (by omega)
  have wb := wdN_b ks
  have u42 := ev.2.2.1.2
  have gl1 := ev.1.1
  have v60 := s1.1.1.2.2.2.2.2.2.1.2
  have o20 := s1.1.1.2.2.2.2.2.1.2
  have t256 := s1.1.1.2.2.2.1.2.1
  refine Tm_suc (fun k => by rw [f_X5_nameStatement]) ?_
  rcases gT_any hG with ⟨w1, w2⟩ | ⟨w1, w2⟩
  · rw [w2]
    exact zt_adv (C := False) s1 (Or.inl ⟨w1, rfl⟩) (fun _ _ _ _ c _ _ => c.elim)
  refine zt_adv (C := True) s1 (Or.inr ⟨w1, trivial⟩) (fun τ2 ret2 n1 n2 _ s2 xk2 => ?_)
  have go2 := tk_go s2.1.1
  have tm2 := TgM_k tm xk2 (Nat.le_refl _)
  have ev2 := EvX_z ev s2.1.2.1
  unfold gAs0 at w2
  generalize hq2 : tkN T n r.1 = q2 at *
  -- an assignment
  have b13 : ∀ (L' : LV), L'.1 5 = nI mk → ¬ (tkK T n q2 = 26 ∧ (fd E (tkS T n q2)).1 = 3) → Tm (fun k => f_X5_nameStatement k 13 L' τ2) (ZPo b u tb.length sz mk (zq x) (fun r _ τ => SzR T n b u al gl Pc Vm tb o mk sz q v w st lo qh r τ) σ (a1 + n1) (a2 + n2)) := by
    intro L' j5 hn
    rw [if_neg hn] at w2
    refine Tm_suc (fun k => by rw [f_X5_nameStatement]) ?_
    have bdx : BdX n o q2 r.2.1 (mk + 4 + ks.length) 0 (sz + cs.length) tb.length := ⟨n10, by omega, by omega, by omega, by omega⟩
    refine zt_call (C := True) s2 (c_assignment (Pc := Pc) (t0 := mk) (f := f) s2.1.1 ev2 bdx (by omega) tm2 (Nat.le_refl _) tv ko (by omega) ri j5 w2) ?_
    cases x with
    | inl yf => exact Or.inl ⟨_, rfl, rfl⟩
    | inr r3 =>
      refine Or.inr ⟨(r3.1, r3.2.1), rfl, trivial, fun τ3 ret3 n3' n4 hr xk3 hc3 => ?_⟩
      obtain ⟨l3, r1, r2, r3', r4, r5, r6⟩ := hr
      have s3 := Zy_cl s2 r1 xk3 hc3 r2 (Nat.le_refl _) (by omega)
      have go3 := tk_go s3.1.1
      have r5' : q2 < r3.1 := r5
      have r4' : 2 * l3.length ≤ 3 * (r3.1 - q2) + (2 * ks.length + 10) := r4
      have lc : (cs ++ l3).length = cs.length + l3.length := List.length_append
      have z := Sst_sg (Pc := Pc) (pre := []) sg 0
      rw [Nat.zero_add] at z
      have sg1 := sg.1
      have ty : Sse u gl Pc Vm [] 0 0 0 (cs ++ l3) := Sse_seq z r3' (by omega)
      exact c_nmEnd (L := L') s3 (by omega) (Nat.le_refl _) j5 ty (Nat.zero_le _) (by rw [lc]; show 2 * (cs.length + l3.length) ≤ 7 * (r3.1 - q); omega) (by show q < r3.1; omega) (by have : r.2.1 ≤ r3.2.1 := r6; show v ≤ r3.2.1; omega)
  -- what is found
  have b11 : ∀ (L' : LV), L'.1 4 = nI sz → L'.1 5 = nI mk → ((L'.1 100 = -1 ∧ ¬ (tkK T n q2 = 26 ∧ (fd E (tkS T n q2)).1 = 3)) ∨ (tkK T n q2 = 26 ∧ ∃ i, L'.1 100 = nI i ∧ LkI tb (tkS T n q2) i)) → Tm (fun k => f_X5_nameStatement k 11 L' τ2) (ZPo b u tb.length sz mk (zq x) (fun r _ τ => SzR T n b u al gl Pc Vm tb o mk sz q v w st lo qh r τ) σ (a1 + n1) (a2 + n2)) := by
    intro L' j4 j5 hh
    refine Tm_suc (fun k => by rw [f_X5_nameStatement]) ?_
    rcases hh with ⟨h1, h2⟩ | ⟨k26, i, h1, lk⟩
    · refine Tm_yes h1 ?_
      exact b13 L' j5 h2
    have lk1 := lk.1
    have okn : okN (tkS T n q2) := (s2.1.1.1.2.2.2.2.2.2.2.2 k26).2
    obtain ⟨nr1, nr2⟩ := ev.1.2 (tkS T n q2) okn
    obtain ⟨en0, en1, en2, en3, en4⟩ := nr1 i lk
    obtain ⟨t1, t2, t3, t4, t5, t6, t7⟩ := s2.1.1.2.2.2.1.2.2 i lk1
    have ii : ¬ (nI i < 0 ∨ 256 ≤ (nI i).toNatClampNeg) := n_in (by omega) (by omega)
    have ci : (nI i).toNatClampNeg = i := n_cl (by omega)
    rw [h1]
    refine Tm_no (n_mn (by omega)) ?_
    refine Tm_oP (Zy_pp s2) ?_
    refine Tm_chk ii ?_
    have e7 : τ2.2.2.1 (pR7 b) (nI i).toNatClampNeg = nI (tb.getD i e0E).2.1 := by rw [ci]; exact t4
    by_cases kd2 : (tb.getD i e0E).2.1 = 2
    case neg =>
      refine Tm_no (by show ¬ τ2.2.2.1 (pR7 b) (nI i).toNatClampNeg = 2; rw [e7]; show ¬ nI (tb.getD i e0E).2.1 = nI 2; rw [n_eq (by omega) (by decide)]; exact kd2) ?_
      refine b13 L' j5 (fun z => ?_)
      have n3' := n3 i lk1
      have c : (tb.getD i e0E).2.1 = 0 ∨ (tb.getD i e0E).2.1 = 1 := by omega
      rcases c with c | c
      · have := (en1 c).1; omega
      · have := (en3 c).1; omega
    obtain ⟨f3, _, hs⟩ := en4 kd2
    refine Tm_yes (by show τ2.2.2.1 (pR7 b) (nI i).toNatClampNeg = 2; rw [e7, kd2]; rfl) ?_
    rw [if_pos ⟨k26, f3⟩] at w2
    unfold gCa0 at w2
    have hP := pe _ okn f3
    obtain ⟨⟨pv1, pv2, pv3⟩, _, _⟩ := pr _ _ hP
    have hmd : MD (fd E (tkS T n q2)).2.1 = MD ((fd E (tkS T n q2)).2.1 + 1 - 1) := rfl
    generalize hvv : (fd E (tkS T n q2)).2.1 + 1 = vv at *
    generalize hnp : E.2.2.2.2.2.2 (fd E (tkS T n q2)).2.1 = np at *
    have g2 := go2.2.2 (by omega)
    have pst : ∃ xp : Fl Nat, ((¬ (¬ tkK T n (tkN T n q2) = 0 ∧ tkK T n (tkN T n q2) = 6) ∧ xp = Sum.inl (pF T n q2)) ∨ ((¬ tkK T n (tkN T n q2) = 0 ∧ tkK T n (tkN T n q2) = 6) ∧ xp = Sum.inr (tkN T n q2))) ∧ ((∃ y, xp = Sum.inl y ∧ x = Sum.inl y) ∨ (xp = Sum.inr (tkN T n q2) ∧ tkK T n (tkN T n q2) = 6 ∧ gCl0 T n f (MD (fd E (tkS T n q2)).2.1) np E o (tkN T n q2) r.2.1 r.2.2.2.2.1 = some x)) := by
      rcases gT_any w2 with ⟨y1, y2⟩ | ⟨y1, y2⟩
      · exact ⟨Sum.inl (1, tkN T n q2), Or.inl ⟨fun z => z.1 y1, by rw [pF_1 y1]⟩, Or.inl ⟨_, rfl, y2⟩⟩
      by_cases k6 : tkK T n (tkN T n q2) = 6
      · rw [if_pos k6] at y2
        exact ⟨_, Or.inr ⟨⟨y1, k6⟩, rfl⟩, Or.inr ⟨rfl, k6, y2⟩⟩
      · rw [if_neg k6] at y2
        exact ⟨Sum.inl (5, q2), Or.inl ⟨fun z => k6 z.2, by rw [pF_5 y1]⟩, Or.inl ⟨_, rfl, (Option.some.inj y2).symm⟩⟩
    obtain ⟨xp, hp1, hp2⟩ := pst
    refine zt_callO (C := True) (c_postp (x := xp) s2 (Nat.le_refl _) (by omega) j4 hp1) ?_
    rcases hp2 with ⟨y0, e1, e2⟩ | ⟨e1, k6, hgc⟩
    · exact Or.inl ⟨y0, e1, by rw [e2]; rfl⟩
    refine Or.inr ⟨_, e1, trivial, fun τ3 ret3 n5 n6 hr zk3 hc3 => ?_⟩
    obtain ⟨sb3, kp3, hm3⟩ := hr
    have s3 : Zy T n b u al σ tb.length sz mk (a1 + n1 + n5) (a2 + n2 + n6) tb o (tkN T n q2) r.2.1 (mk + 4 + ks.length) w st lo qh sz [] τ3 := ⟨⟨sb3.1.1, zk3, hc3, Nat.le_refl _, Nat.le_refl _, by omega⟩, sb3.2.1, sb3.2.2⟩
    have go3 := tk_go s3.1.1
    have tm3 : TgM τ3 mk s ow ks := by
      obtain ⟨⟨z1, z2, z3, z4⟩, z5⟩ := tm2
      exact ⟨⟨by rw [hm3 _ (by omega)]; exact z1, by rw [hm3 _ (by omega)]; exact z2, by rw [hm3 _ (by omega)]; exact z3, by rw [hm3 _ (by omega)]; exact z4⟩, fun i hi => by rw [hm3 _ (by omega)]; exact z5 i hi⟩
    refine Tm_oP (Zy_pp s3) ?_
    refine Tm_chk ii ?_
    have t63 : τ3.2.2.1 (pR9 b) (nI i).toNatClampNeg = nI vv := by
      obtain ⟨t1', t2', t3', t4', t5', t6', t7'⟩ := s3.1.1.2.2.2.1.2.2 i lk1
      rw [ci, t6', hs]
    have k13 : τ3.1 4013 = nI cs.length := kp3.1.1
    have ev3 := EvX_z ev zk3
    have pr3 := PcR_k pr zk3
    refine zt_callZ (C := True) s3 (c_call (lt0 := cs) (vv := vv) (np := np) s3.1.1 s3.2.2 ev3 pr3 hP hmd n3 n10 (by omega) (by omega) (by show 2 * (sz + 0) + 7 * (n - tkN T n q2) + 2 * cs.length + 100 ≤ _; omega) k6 kp3 (by omega) t63 k13 hgc) ?_
    cases x with
    | inl yf => exact Or.inl ⟨_, rfl, rfl⟩
    | inr r4 =>
      refine Or.inr ⟨(r4.1, r4.2.1), rfl, trivial, fun τ4 ret4 n7 n8 hr zk4 hc4 => ?_⟩
      obtain ⟨cc, pp, r1, r2, r3, ⟨r4a, r4b⟩, r5, r6, r7, r8⟩ := hr
      have s4 := Zy_ca s3 r1 zk4 hc4 r2 (Nat.le_refl _) (by omega) r3
      have s4' : Zy T n b u al σ tb.length sz mk (a1 + n1 + n5 + n7) (a2 + n2 + n6 + n8) tb o r4.1 r4.2.1 (mk + 4 + ks.length) w st lo qh sz (cc ++ (pp ++ cs)) τ4 := s4
      have go4 := tk_go s4'.1.1
      have r7' : tkN T n q2 < r4.1 := r7
      have r6' : 2 * (cc.length + pp.length) ≤ 7 * (r4.1 - tkN T n q2) := r6
      have lcp : (cc ++ (pp ++ cs)).length = cc.length + pp.length + cs.length := by rw [List.length_append, List.length_append]; omega
      have tm4 : TgM τ4 mk s ow ks := by
        obtain ⟨⟨z1, z2, z3, z4⟩, z5⟩ := tm3
        have hm4 := zk4.2.2.2.2.2.2.1
        exact ⟨⟨by rw [hm4 _ (by omega)]; exact z1, by rw [hm4 _ (by omega)]; exact z2, by rw [hm4 _ (by omega)]; exact z3, by rw [hm4 _ (by omega)]; exact z4⟩, fun i hi => by rw [hm4 _ (by omega)]; exact z5 i hi⟩
      refine Tm_oP (Zy_pp s4') ?_
      refine Tm_chk ii ?_
      have t64 : τ4.2.2.1 (pR9 b) (nI i).toNatClampNeg = nI vv := by
        obtain ⟨t1', t2', t3', t4', t5', t6', t7'⟩ := s4'.1.1.2.2.2.1.2.2 i lk1
        rw [ci, t6', hs]
      have p14 := (PcR_k pr s4'.1.2.1 _ _ hP).2.1
      obtain ⟨g, hgg⟩ : ∃ g, g = if ow = u then 0 else 1 := ⟨_, rfl⟩
      refine zt_call (C := True) s4' (c_assignR (g := g) (t0 := mk) (np := np) (vv := vv) s4'.1.1 u42 tm4 (Nat.le_refl _) (by omega) hgg tv.2.2 (by omega) pv2 p14 (by rw [lcp]; omega) j5 t64) (Or.inr ⟨(), rfl, trivial, fun τ5 ret5 n9 n10' hr5 xk5 hc5 => ?_⟩)
      have s5 := Zy_cl s4' hr5.1 xk5 hc5 hr5.2 (Nat.le_refl _) (by omega)
      have la : ([em 38 (nI (wdN ks + np))] ++ (rwL (192 + g) s (wdN ks + 1) ks ++ [em 37 (nI (wdN ks + 2 + np))])).length = ks.length + 5 := by
        rw [List.length_append, List.length_append, rwL_l]
        show 1 + (ks.length + 3 + 1) = _
        omega
      have lf : (cc ++ (pp ++ cs) ++ ([em 38 (nI (wdN ks + np))] ++ (rwL (192 + g) s (wdN ks + 1) ks ++ [em 37 (nI (wdN ks + 2 + np))]))).length = cc.length + pp.length + cs.length + (ks.length + 5) := by rw [List.length_append, lcp, la]
      have sg1 := sg.1
      have ty : Sse u gl Pc Vm [] 2 0 0 (cc ++ (pp ++ cs) ++ ([em 38 (nI (wdN ks + np))] ++ (rwL (192 + g) s (wdN ks + 1) ks ++ [em 37 (nI (wdN ks + 2 + np))]))) := by
        have z1 := Sse_ar (Pc := Pc) tv hgg gl1 ko (by omega) pv2
        have z2 := Sse_seq (Sst_sg (Pc := Pc) (pre := []) sg (1 + np)) z1 (by omega)
        have z3 := Sse_seq r5 z2 (by omega)
        have z4 := Sse_seq r4a z3 (by omega)
        rw [List.append_assoc, List.append_assoc]
        exact z4
      refine c_nmEnd (L := L') s5 (by omega) (Nat.le_refl _) j5 ty (Nat.le_refl _) ?_ (by show q < r4.1; omega) (by have : r.2.1 ≤ r4.2.1 := r8; show v ≤ r4.2.1; omega)
      rw [lf]
      show 2 * (cc.length + pp.length + cs.length + (ks.length + 5)) ≤ 7 * (r4.1 - q)
      omega
  by_cases k26 : tkK T n q2 = 26
  · refine Tm_yes ((lx_k (kk := 26) s2.1.1 (by decide)).2 k26) ?_
    refine Tm_oP (Zy_pp s2) ?_
    have l9 := s2.1.1.1.2.2.2.2.2.2.2.2 k26
    refine Tm_op (c_found (bs := tkS T n q2) s2.1.1.2.2.2.1 rfl l9.2 l9.1.1 l9.1.2) (fun r4 z4 => ?_)
    obtain ⟨e4, h4⟩ := z4
    rw [e4]
    refine b11 _ l4 l5 ?_
    rcases h4 with ⟨i, e5, lk⟩ | ⟨e5, lk⟩
    · exact Or.inr ⟨k26, i, e5, lk⟩
    · refine Or.inl ⟨e5, fun z => ?_⟩
      have := (ev.1.2 (tkS T n q2) l9.2).2 lk
      omega
  · refine Tm_no (fun z => k26 ((lx_k (kk := 26) s2.1.1 (by decide)).1 z)) ?_
    refine Tm_suc (fun k => by rw [f_X5_nameStatement]) ?_
    exact b11 _ l4 l5 (Or.inl ⟨rfl, fun z => k26 z.1⟩)
end CXN
end JnS498
section JnS499
/-! The class: statements that begin with a name are read. -/
section CXO
variable {σ σ' σ0 τ τ' τ0 : CS} {L : LV} {b : Bool} {T : Nat → Int32} {n q q' u al o v mk mk' p sz szB szE nc nc0 sz0 mk0 a1 a2 m kk f e s ow a t0 g D op w st w' st' M nm deep vv np : Nat} {y qh qh' : Int32} {l l' cs cs' ll lt lt0 : List Int32} {tb : List Ent} {E : En} {gl : Nat × (Nat → Nat → Prop)} {Vm : Nat → Prop} {Pc : Nat → Nat → Prop} {MD : Nat → Nat → Nat} {md : Nat → Nat} {bt : BT} {ks : List Nat} {lo lo' : Option Nat}
/-- +:= .. -/
theorem c_nmOp {r : RT} {x : Fl RT} (ts : TgS T n b u al gl Vm σ a1 a2 tb o q v mk w st lo qh sz s ow ks cs r τ) (sx : StX n E b u al gl Vm Pc MD tb σ) (bd : BdS n o q v mk sz tb.length) (l5 : L.1 5 = nI mk) (hk : tkK T n r.1 = 2 ∨ tkK T n r.1 = 3 ∨ tkK T n r.1 = 4) (hG : gT T n r.1 (fun q1 => gW T n 1 q1 (fun q2 => G T n f 0 E o q2 r.2.1 0 0 0 0 r.2.2.2.2.1)) = some x) : Tm (fun k => f_X5_nameStatement k 7 L τ) (ZPo b u tb.length sz mk (zq x) (fun r _ τ => SzR T n b u al gl Pc Vm tb o mk sz q v w st lo qh r τ) σ a1 a2) := by
  obtain ⟨s1, tv, tm, ko, sg, ln, lq, lv, ri⟩ := ts
  obtain ⟨bd1, bd2, bd3⟩ := bd
  obtain ⟨ev, pr, pe, n3, n10⟩ := sx
  have go := tk_go s1.1.1
  have wb := wdN_b ks
  have e2 : τ.1 3702 = cKd (tkK T n r.1) := s1.1.1.1.2.2.2.2.2.1
  refine Tm_suc (fun k => by rw [f_X5_nameStatement]) ?_
  refine zt_call (C := True) s1 (c_operation (Pc := Pc) (t0 := mk) (f := f) s1.1.1 (EvX_z ev s1.1.2.1) n10 (by omega) (by omega) (by omega) tm (Nat.le_refl _) tv ko (by omega) l5 hk e2 hG) ?_
  cases x with
  | inl yf => exact Or.inl ⟨_, rfl, rfl⟩
  | inr r3 =>
    refine Or.inr ⟨(r3.1, r3.2.1), rfl, trivial, fun τ3 ret3 n3' n4 hr xk3 hc3 => ?_⟩
    obtain ⟨⟨l3, r1, r2, r3', r4, r5, r6⟩, r7⟩ := hr
    have s3 := Zy_cl s1 r1 xk3 hc3 r2 (Nat.le_refl _) (by omega)
    have go3 := tk_go s3.1.1
    have r7' : r.1 + 3 ≤ r3.1 := r7
    have r4' : 2 * l3.length ≤ 3 * (r3.1 - r.1) + (4 * ks.length + 13) := r4
    have lc : (cs ++ l3).length = cs.length + l3.length := List.length_append
    have z := Sst_sg (Pc := Pc) (pre := []) sg 0
    rw [Nat.zero_add] at z
    have sg1 := sg.1
    have ty : Sse u gl Pc Vm [] 0 0 0 (cs ++ l3) := Sse_seq z r3' (by omega)
    exact c_nmEnd (L := L) s3 (by omega) (Nat.le_refl _) l5 ty (Nat.zero_le _) (by rw [lc]; show 2 * (cs.length + l3.length) ≤ 7 * (r3.1 - q); omega) (by show q < r3.1; omega) (by have : r.2.1 ≤ r3.2.1 := r6; show v ≤ r3.2.1; omega)
theorem ck_nI {k : Nat} (h : k = 57 ∨ k = 58 ∨ k = 59) : cKd k = nI k := by
  rcases h with h | h | h <;> (rw [h]; rfl)
/-- from .. -/
theorem c_nmTk {r : RT} {x : Fl RT} (ts : TgS T n b u al gl Vm σ a1 a2 tb o q v mk w st lo qh sz s ow ks cs r τ) (sx : StX n E b u al gl Vm Pc MD tb σ) (bd : BdS n o q v mk sz tb.length) (l5 : L.1 5 = nI mk) (hk : tkK T n r.1 = 57 ∨ tkK T n r.1 = 58 ∨ tkK T n r.1 = 59) (hG : gT T n r.1 (fun q1 => gTg T n f E o q1 r.2.1 r.2.2.2.2.1) = some x) : Tm (fun k => f_X5_nameStatement k 8 L τ) (ZPo b u tb.length sz mk (zq x) (fun r _ τ => SzR T n b u al gl Pc Vm tb o mk sz q v w st lo qh r τ) σ a1 a2) := by
  obtain ⟨s1, tv, tm, ko, sg, ln, lq, lv, ri⟩ := ts
  obtain ⟨bd1, bd2, bd3⟩ := bd
  obtain ⟨ev, pr, pe, n3, n10⟩ := sx
  have go := tk_go s1.1.1
  have wb := wdN_b ks
  have u42 := ev.2.2.1.2
  have gl1 := ev.1.1
  have e2 : τ.1 3702 = cKd (tkK T n r.1) := s1.1.1.1.2.2.2.2.2.1
  have w4 : r.1 + 4 ≤ tkN T n r.1 := by
    rcases hk with hk | hk | hk
    · exact tk_wl (m := 4) s1.1.1 hk (by decide) rfl
    · have := tk_wl (m := 5) s1.1.1 hk (by decide) rfl; omega
    · have := tk_wl (m := 5) s1.1.1 hk (by decide) rfl; omega
  have v60 := s1.1.1.2.2.2.2.2.2.1.2
  refine Tm_suc (fun k => by rw [f_X5_nameStatement]) ?_
  rcases gT_any hG with ⟨w1, w2⟩ | ⟨w1, w2⟩
  · rw [w2]
    exact zt_adv (C := False) s1 (Or.inl ⟨w1, rfl⟩) (fun _ _ _ _ c _ _ => c.elim)
  refine zt_adv (C := True) s1 (Or.inr ⟨w1, trivial⟩) (fun τ2 ret2 n1 n2 _ s2 xk2 => ?_)
  have go2 := tk_go s2.1.1
  have tm2 := TgM_k tm xk2 (Nat.le_refl _)
  refine zt_call (C := True) s2 (c_target (L := lI lZ 1 (-1)) s2.1.1 (EvX_z ev s2.1.2.1) n3 n10 (by omega) (by omega) (by omega) (Nat.zero_le _) rfl w2) ?_
  cases x with
  | inl yf => exact Or.inl ⟨_, rfl, rfl⟩
  | inr r3 =>
    refine Or.inr ⟨r3, rfl, trivial, fun τ3 ret3 n3' n4 hr xk3 hc3 => ?_⟩
    obtain ⟨s', ow', tv', gq, er, l3, ks', r1, r2, r3', r4, r5, r6, r7, r8, r9⟩ := hr
    have s3 := Zy_cl s2 r1 xk3 hc3 r2 (Nat.le_refl _) (by omega)
    have go3 := tk_go s3.1.1
    have tm3 := TgM_k tm2 xk3 (Nat.le_refl _)
    have wb' := wdN_b ks'
    have lc : (cs ++ l3).length = cs.length + l3.length := List.length_append
    have lw : τ.1 3702 - 57 = nI (tkK T n r.1 - 57) := by
      rw [e2, ck_nI hk]
      show nI (tkK T n r.1) - nI 57 = _
      rw [n_sub (by omega) (by omega)]
    refine zt_call (C := True) s3 (c_taking (Pc := Pc) (gl := gl) (Vm := Vm) (t0 := mk) (t1 := mk + 4 + ks.length) (way := tkK T n r.1 - 57) s3.1.1 u42 gl1 (by rw [lc]; omega) tm3 (by omega) tv ko (by omega) r4 (Nat.le_refl _) tv' r5 (by omega) (by omega) l5 er lw) (Or.inr ⟨(), rfl, trivial, fun τ4 ret4 n5 n6 hr4 xk4 hc4 => ?_⟩)
    obtain ⟨l4, q1, q2, q3, q4⟩ := hr4
    have s4 := Zy_cl s3 q1 xk4 hc4 q2 (Nat.le_refl _) (by omega)
    have sg1 := sg.1
    have sg3 := r3'.1
    have ty : Sse u gl Pc Vm [] 0 0 0 (cs ++ l3 ++ l4) := by
      have z2 := Sst_sg (Pc := Pc) (pre := []) (Sgm_seq sg r3') 0
      rw [Nat.zero_add] at z2
      exact Sse_seq z2 q3 (by rw [lc]; omega)
    refine c_nmEnd (L := L) s4 (by omega) (Nat.le_refl _) l5 ty (Nat.zero_le _) ?_ (by show q < r3.1; omega) (by show v ≤ r3.2.1; omega)
    rw [List.length_append, lc]
    show 2 * (cs.length + l3.length + l4.length) ≤ 7 * (r3.1 - q)
    omega
/-- a statement that begins with a name -/
theorem c_nameSt {x : Fl RT} (h : QS T n b u al tb o q v mk 0 sz σ) (zf : ZF b u w st lo qh σ) (sx : StX n E b u al gl Vm Pc MD tb σ) (bd : BdS n o q v mk sz tb.length) (hk : tkK T n q = 26) (hG : gBg0 T n f MD E o q v bt = some x) : Tm (fun k => f_X5_nameStatement k 0 L σ) (ZPo b u tb.length sz mk (zq x) (fun r _ τ => SzR T n b u al gl Pc Vm tb o mk sz q v w st lo qh r τ) σ 0 0) := by
  have s0 := Zy_0 h zf
  have go := tk_go h
  have g1 := go.2.2 (by omega)
  have sx0 := sx
  have bd0 := bd
  obtain ⟨bd1, bd2, bd3⟩ := bd
  obtain ⟨ev, pr, pe, n3, n10⟩ := sx
  have okn : okN (tkS T n q) := (h.1.2.2.2.2.2.2.2.2 hk).2
  obtain ⟨nr1, nr2⟩ := ev.1.2 (tkS T n q) okn
  have v60 := h.2.2.2.2.2.2.1.2
  unfold gBg0 at hG
  refine Tm_suc (fun k => by rw [f_X5_nameStatement]) ?_
  by_cases k0 : tkK T n (tkN T n q) = 0
  · have hx : x = Sum.inl (1, tkN T n q) := by
      by_cases f3 : (fd E (tkS T n q)).1 = 3
      · rw [if_pos f3] at hG
        unfold gCa0 at hG
        rw [gT_n k0] at hG
        exact (Option.some.inj hG).symm
      · rw [if_neg f3] at hG
        unfold gTg at hG
        rw [if_pos hk, gT_n k0] at hG
        exact (Option.some.inj hG).symm
    rw [hx]
    exact zt_call (C := True) s0 (c_takenName (bs := tkS T n q) s0.1.1 hk (Or.inl ⟨k0, rfl⟩)) (Or.inl ⟨_, rfl, rfl⟩)
  refine zt_call (C := True) s0 (c_takenName (bs := tkS T n q) s0.1.1 hk (Or.inr ⟨k0, rfl⟩)) (Or.inr ⟨_, rfl, trivial, fun τ1 ret n1 n2 hr xk hc => ?_⟩)
  obtain ⟨hr1, hr2⟩ := hr
  have s1 : Zy T n b u al σ tb.length sz mk (0 + n1) (0 + n2) tb o (tkN T n q) v mk w st lo qh sz [] τ1 := Zy_cx s0 hr1 xk hc (Nat.le_refl _) (Nat.le_refl _)
  have t256 := s1.1.1.2.2.2.1.2.1
  have b3 : ∀ L' : LV, L'.1 1 = nI q → x = Sum.inl (5, q) → Tm (fun k => f_X5_nameStatement k 3 L' τ1) (ZPo b u tb.length sz mk (zq x) (fun r _ τ => SzR T n b u al gl Pc Vm tb o mk sz q v w st lo qh r τ) σ (0 + n1) (0 + n2)) := by
    intro L' l1 hx
    refine Tm_suc (fun k => by rw [f_X5_nameStatement]) ?_
    rw [hx]
    exact zt_ref s1 rfl l1 (by decide)
  rcases hr2 with ⟨i, e1, lk⟩ | ⟨e1, lk⟩
  case inr =>
    have f0 := nr2 lk
    rw [e1]
    refine Tm_yes rfl ?_
    refine Tm_suc (fun k => by rw [f_X5_nameStatement]) ?_
    refine Tm_yes rfl ?_
    refine b3 _ (lx_3 h) ?_
    rw [if_neg (by omega)] at hG
    unfold gTg at hG
    rw [if_pos hk, gT_y k0, if_neg (by omega)] at hG
    exact (Option.some.inj hG).symm
  have lk1 := lk.1
  obtain ⟨en0, en1, en2, en3, en4⟩ := nr1 i lk
  obtain ⟨t1, t2, t3, t4, t5, t6, t7⟩ := s1.1.1.2.2.2.1.2.2 i lk1
  have n3' := n3 i lk1
  have ii : ¬ (nI i < 0 ∨ 256 ≤ (nI i).toNatClampNeg) := n_in (by omega) (by omega)
  have ci : (nI i).toNatClampNeg = i := n_cl (by omega)
  rw [e1]
  refine Tm_no (n_mn (by omega)) ?_
  refine Tm_suc (fun k => by rw [f_X5_nameStatement]) ?_
  refine Tm_oP (Zy_pp s1) ?_
  show Tm (fun k => if ¬ (nI i < 0 ∨ 256 ≤ (nI i).toNatClampNeg) then f_X5_nameStatement k 2 (lI (lI (lI L 1 (σ.1 3703)) 2 (nI i)) 100 (τ1.2.2.1 (pR7 b) (nI i).toNatClampNeg)) τ1 else none) _
  refine Tm_chk ii ?_
  rw [ci, t4]
  refine Tm_suc (fun k => by rw [f_X5_nameStatement]) ?_
  have c : (tb.getD i e0E).2.1 = 0 ∨ (tb.getD i e0E).2.1 = 1 ∨ (tb.getD i e0E).2.1 = 2 := by omega
  have e100 : (lI (lI (lI L 1 (σ.1 3703)) 2 (nI i)) 100 (nI (tb.getD i e0E).2.1)).1 100 = nI (tb.getD i e0E).2.1 := rfl
  rw [e100]
  rcases c with c | c | c
  · -- a variable
    obtain ⟨z1, z2, z3⟩ := en1 c
    rw [if_neg (by omega)] at hG
    unfold gTg at hG
    rw [if_pos hk, gT_y k0, if_pos z1] at hG
    rw [c]
    refine Tm_no (by decide) (Tm_no (by decide) ?_)
    refine Tm_suc (fun k => by rw [f_X5_nameStatement]) ?_
    refine Tm_no (by show ¬ nI 0 = 2; decide) ?_
    refine Tm_suc (fun k => by rw [f_X5_nameStatement]) ?_
    refine Tm_oP (Zy_pp s1) ?_
    have gz : ∃ z, G T n f 12 E o (tkN T n q) v 1 bt.1 0 0 (bNode bt 7 (fd E (tkS T n q)).2.2 (nI (fd E (tkS T n q)).2.1) 0) = some z := by
      rcases gb_any hG with ⟨yf, y1, y2⟩ | ⟨r4, y1, y2⟩
      · exact ⟨_, y1⟩
      · exact ⟨_, y1⟩
    obtain ⟨z, hz⟩ := gz
    have es : τ1.1 (fP b 1) = nI sz := s1.1.1.2.1.1
    refine zt_call (C := True) s1 (c_targetN (L := lI lZ 1 (nI i)) s1.1.1 (EvX_z ev s1.1.2.1) n10 (by omega) (by show 2 * (sz + 0) + 3 * (n - tkN T n q) + 100 ≤ _; omega) (by omega) (Nat.zero_le _) lk1 ⟨rfl, rfl⟩ rfl hz) ?_
    rcases gb_any hG with ⟨yf, y1, y2⟩ | ⟨r, y1, y2⟩
    · rw [hz] at y1
      exact Or.inl ⟨_, Option.some.inj y1, by rw [y2]; rfl⟩
    rw [hz] at y1
    refine Or.inr ⟨r, Option.some.inj y1, trivial, fun τ2 ret2 n3x n4 hr xk2 hc2 => ?_⟩
    obtain ⟨er, cs, ks, r1, r2, r3, r4, r5, r6, r7, r8, r9⟩ := hr
    have s2 := Zy_cl s1 r1 xk2 hc2 r2 (Nat.le_refl _) (by omega)
    have ts : TgS T n b u al gl Vm σ (0 + n1 + n3x) (0 + n2 + n4) tb o q v mk w st lo qh sz (tb.getD i e0E).2.2.2.1 (tb.getD i e0E).2.2.1 ks cs r τ2 := ⟨s2, ⟨z2, z3, en0.2⟩, r4, r5, r3, by omega, by omega, r8, r9⟩
    have er' : ret2 = nI mk := er
    have go2 := tk_go s2.1.1
    have kv := s2.1.1
    unfold gBh0 at y2
    -- which sign comes
    by_cases k1 : tkK T n r.1 = 1
    · rw [if_neg (by omega), if_neg (by omega)] at y2
      have y3 : gT T n r.1 (fun q1 => gAs0 T n f MD E o r.2.2.1 q1 r.2.1 r.2.2.2.2.1) = some x := by
        unfold gW at y2
        rw [if_pos k1] at y2
        exact y2
      refine Tm_yes ((lx_k (kk := 1) kv (by decide)).2 k1) ?_
      exact c_nmAs ts sx0 bd0 es er' k1 y3
    refine Tm_no (fun z => k1 ((lx_k (kk := 1) kv (by decide)).1 z)) ?_
    by_cases k2 : tkK T n r.1 = 2
    · rw [if_pos (Or.inl k2)] at y2
      refine Tm_yes ((lx_k (kk := 2) kv (by decide)).2 k2) ?_
      exact c_nmOp ts sx0 bd0 er' (Or.inl k2) y2
    refine Tm_no (fun z => k2 ((lx_k (kk := 2) kv (by decide)).1 z)) ?_
    by_cases k3 : tkK T n r.1 = 3
    · rw [if_pos (Or.inr (Or.inl k3))] at y2
      refine Tm_yes ((lx_k (kk := 3) kv (by decide)).2 k3) ?_
      exact c_nmOp ts sx0 bd0 er' (Or.inr (Or.inl k3)) y2
    refine Tm_no (fun z => k3 ((lx_k (kk := 3) kv (by decide)).1 z)) ?_
    by_cases k4 : tkK T n r.1 = 4
    · rw [if_pos (Or.inr (Or.inr k4))] at y2
      refine Tm_yes ((lx_k (kk := 4) kv (by decide)).2 k4) ?_
      exact c_nmOp ts sx0 bd0 er' (Or.inr (Or.inr k4)) y2
    refine Tm_no (fun z => k4 ((lx_k (kk := 4) kv (by decide)).1 z)) ?_
    rw [if_neg (by omega)] at y2
    by_cases k57 : tkK T n r.1 = 57
    · rw [if_pos (Or.inl k57)] at y2
      refine Tm_yes ((lx_k (kk := 57) kv (by decide)).2 k57) ?_
      exact c_nmTk ts sx0 bd0 er' (Or.inl k57) y2
    refine Tm_no (fun z => k57 ((lx_k (kk := 57) kv (by decide)).1 z)) ?_
    by_cases k58 : tkK T n r.1 = 58
    · rw [if_pos (Or.inr (Or.inl k58))] at y2
      refine Tm_yes ((lx_k (kk := 58) kv (by decide)).2 k58) ?_
      exact c_nmTk ts sx0 bd0 er' (Or.inr (Or.inl k58)) y2
    refine Tm_no (fun z => k58 ((lx_k (kk := 58) kv (by decide)).1 z)) ?_
    by_cases k59 : tkK T n r.1 = 59
    · rw [if_pos (Or.inr (Or.inr k59))] at y2
      refine Tm_yes ((lx_k (kk := 59) kv (by decide)).2 k59) ?_
      exact c_nmTk ts sx0 bd0 er' (Or.inr (Or.inr k59)) y2
    refine Tm_no (fun z => k59 ((lx_k (kk := 59) kv (by decide)).1 z)) ?_
    rw [if_neg (by omega), gW_n (fun z => k1 z.1)] at y2
    refine Tm_suc (fun k => by rw [f_X5_nameStatement]) ?_
    rw [← Option.some.inj y2, wF_n k1]
    exact zt_ref s2 rfl (lx_3 s2.1.1) (by decide)
  · -- a func
    have f2 := (en3 c).1
    rw [c]
    refine Tm_yes rfl ?_
    refine b3 _ (lx_3 h) ?_
    rw [if_neg (by omega)] at hG
    unfold gTg at hG
    rw [if_pos hk, gT_y k0, if_neg (by omega)] at hG
    exact (Option.some.inj hG).symm
  · -- a proc
    obtain ⟨f3, _, hs⟩ := en4 c
    rw [if_pos f3] at hG
    unfold gCa0 at hG
    rw [gT_y k0] at hG
    rw [c]
    refine Tm_no (by decide) (Tm_yes rfl ?_)
    by_cases k6 : tkK T n (tkN T n q) = 6
    · rw [if_pos k6] at hG
      refine Tm_yes ((lx_k (kk := 6) s1.1.1 (by decide)).2 k6) ?_
      exact c_nmCall (i := i) s1 (StX_k sx0 s1.1.2.1) bd0 g1 lk1 c f3 hs okn rfl rfl k6 hG
    · rw [if_neg k6] at hG
      refine Tm_no (fun z => k6 ((lx_k (kk := 6) s1.1.1 (by decide)).1 z)) ?_
      exact b3 _ (lx_3 h) (Option.some.inj hG).symm
end CXO
end JnS499
section JnS500
/-! The class: which statement begins; rows of exps of a print. -/
section CXP
variable {σ σ' σ0 τ τ' τ0 : CS} {L : LV} {b : Bool} {T : Nat → Int32} {n q q' u al o v mk mk' p sz szB szE nc nc0 sz0 mk0 a1 a2 m kk f e s ow a t0 g D op w st w' st' M nm deep vv np lp : Nat} {y qh qh' : Int32} {l l' cs cs' ll lt lt0 : List Int32} {tb : List Ent} {E : En} {gl : Nat × (Nat → Nat → Prop)} {Vm : Nat → Prop} {Pc : Nat → Nat → Prop} {MD : Nat → Nat → Nat} {md : Nat → Nat} {bt : BT} {ks : List Nat} {lo lo' : Option Nat}
/-- how a statement begins, as the house numbers it -/
abbrev bgD (x : Int32) : Prop := x = 2 ∨ x = 14 ∨ x = 39 ∨ x = 43 ∨ x = 45 ∨ x = 49 ∨ x = 50 ∨ x = 51 ∨ x = 52 ∨ x = 53 ∨ x = 54 ∨ x = 55 ∨ x = 56
theorem c_begins (h : QS T n b u al tb o q v mk p sz σ) : Tm (fun k => y_X5_beginsStatement k 0 L σ) (fun r => r.2 = σ ∧ (isSt (tkK T n q) → r.1 = 1) ∧ (¬ isSt (tkK T n q) → r.1 = 0)) := by
  have e2 : σ.1 3702 = cKd (tkK T n q) := h.1.2.2.2.2.2.1
  have k : ∀ j, tkV j → (σ.1 3702 = cKd j ↔ tkK T n q = j) := fun j hj => lx_k h hj
  have yes : isSt (tkK T n q) → Tm (fun k => y_X5_beginsStatement k 1 L σ) (fun r => r.2 = σ ∧ (isSt (tkK T n q) → r.1 = 1) ∧ (¬ isSt (tkK T n q) → r.1 = 0)) := by
    intro hs
    refine Tm_suc (fun k => by rw [y_X5_beginsStatement]) ?_
    exact Tm_some ⟨rfl, fun _ => rfl, fun z => absurd hs z⟩
  have no : ¬ isSt (tkK T n q) → Tm (fun k => y_X5_beginsStatement k 2 L σ) (fun r => r.2 = σ ∧ (isSt (tkK T n q) → r.1 = 1) ∧ (¬ isSt (tkK T n q) → r.1 = 0)) := by
    intro hs
    refine Tm_suc (fun k => by rw [y_X5_beginsStatement]) ?_
    exact Tm_some ⟨rfl, fun z => absurd z hs, fun _ => rfl⟩
  have vs : isSt (tkK T n q) → bgD (σ.1 3702) := fun z => by
    have c : tkK T n q = 26 ∨ tkK T n q = 10 ∨ tkK T n q = 39 ∨ tkK T n q = 43 ∨ tkK T n q = 45 ∨ tkK T n q = 49 ∨ tkK T n q = 50 ∨ tkK T n q = 51 ∨ tkK T n q = 52 ∨ tkK T n q = 53 ∨ tkK T n q = 54 ∨ tkK T n q = 55 ∨ tkK T n q = 56 := by omega
    rw [e2]
    rcases c with c | c | c | c | c | c | c | c | c | c | c | c | c <;> (rw [c]; decide)
  have nos : ∀ j : Int32, σ.1 3702 = j → ¬ bgD j → ¬ isSt (tkK T n q) := fun j c hd hs => hd (c ▸ vs hs)
  refine Tm_suc (fun k => by rw [y_X5_beginsStatement]) ?_
  refine Tm_ite (fun c => yes (by have := (k 26 (by decide)).1 c; omega)) (fun c2 => ?_)
  refine Tm_ite (fun c => no (nos 3 c (by decide))) (fun _ => ?_)
  refine Tm_ite (fun c => no (nos 4 c (by decide))) (fun _ => ?_)
  refine Tm_ite (fun c => no (nos 5 c (by decide))) (fun _ => ?_)
  refine Tm_ite (fun c => no (nos 6 c (by decide))) (fun _ => ?_)
  refine Tm_ite (fun c => no (nos 7 c (by decide))) (fun _ => ?_)
  refine Tm_ite (fun c => no (nos 8 c (by decide))) (fun _ => ?_)
  refine Tm_ite (fun c => no (nos 9 c (by decide))) (fun _ => ?_)
  refine Tm_ite (fun c => no (nos 10 c (by decide))) (fun _ => ?_)
  refine Tm_ite (fun c => no (nos 11 c (by decide))) (fun _ => ?_)
  refine Tm_ite (fun c => no (nos 12 c (by decide))) (fun _ => ?_)
  refine Tm_ite (fun c => no (nos 13 c (by decide))) (fun _ => ?_)
  refine Tm_ite (fun c => yes (by have := (k 10 (by decide)).1 c; omega)) (fun c14 => ?_)
  refine Tm_ite (fun c => no (nos 15 c (by decide))) (fun _ => ?_)
  refine Tm_ite (fun c => no (nos 16 c (by decide))) (fun _ => ?_)
  refine Tm_ite (fun c => no (nos 17 c (by decide))) (fun _ => ?_)
  refine Tm_ite (fun c => no (nos 18 c (by decide))) (fun _ => ?_)
  refine Tm_ite (fun c => no (nos 19 c (by decide))) (fun _ => ?_)
  refine Tm_ite (fun c => no (nos 20 c (by decide))) (fun _ => ?_)
  refine Tm_ite (fun c => no (nos 21 c (by decide))) (fun _ => ?_)
  refine Tm_ite (fun c => no (nos 22 c (by decide))) (fun _ => ?_)
  refine Tm_ite (fun c => no (nos 23 c (by decide))) (fun _ => ?_)
  refine Tm_ite (fun c => no (nos 24 c (by decide))) (fun _ => ?_)
  refine Tm_ite (fun c => no (nos 25 c (by decide))) (fun _ => ?_)
  refine Tm_ite (fun c => no (nos 26 c (by decide))) (fun _ => ?_)
  refine Tm_ite (fun c => no (nos 27 c (by decide))) (fun _ => ?_)
  refine Tm_ite (fun c => no (nos 28 c (by decide))) (fun _ => ?_)
  refine Tm_ite (fun c => no (nos 29 c (by decide))) (fun _ => ?_)
  refine Tm_ite (fun c => no (nos 30 c (by decide))) (fun _ => ?_)
  refine Tm_ite (fun c => no (nos 31 c (by decide))) (fun _ => ?_)
  refine Tm_ite (fun c => no (nos 32 c (by decide))) (fun _ => ?_)
  refine Tm_ite (fun c => no (nos 33 c (by decide))) (fun _ => ?_)
  refine Tm_ite (fun c => no (nos 34 c (by decide))) (fun _ => ?_)
  refine Tm_ite (fun c => no (nos 35 c (by decide))) (fun _ => ?_)
  refine Tm_ite (fun c => no (nos 36 c (by decide))) (fun _ => ?_)
  refine Tm_ite (fun c => no (nos 37 c (by decide))) (fun _ => ?_)
  refine Tm_ite (fun c => no (nos 38 c (by decide))) (fun _ => ?_)
  refine Tm_ite (fun c => yes (by have := (k 39 (by decide)).1 c; omega)) (fun c39 => ?_)
  refine Tm_ite (fun c => no (nos 40 c (by decide))) (fun _ => ?_)
  refine Tm_ite (fun c => no (nos 41 c (by decide))) (fun _ => ?_)
  refine Tm_ite (fun c => no (nos 42 c (by decide))) (fun _ => ?_)
  refine Tm_ite (fun c => yes (by have := (k 43 (by decide)).1 c; omega)) (fun c43 => ?_)
  refine Tm_ite (fun c => no (nos 44 c (by decide))) (fun _ => ?_)
  refine Tm_ite (fun c => yes (by have := (k 45 (by decide)).1 c; omega)) (fun c45 => ?_)
  refine Tm_ite (fun c => no (nos 46 c (by decide))) (fun _ => ?_)
  refine Tm_ite (fun c => no (nos 47 c (by decide))) (fun _ => ?_)
  refine Tm_ite (fun c => no (nos 48 c (by decide))) (fun _ => ?_)
  refine Tm_ite (fun c => yes (by have := (k 49 (by decide)).1 c; omega)) (fun c49 => ?_)
  refine Tm_ite (fun c => yes (by have := (k 50 (by decide)).1 c; omega)) (fun c50 => ?_)
  refine Tm_ite (fun c => yes (by have := (k 51 (by decide)).1 c; omega)) (fun c51 => ?_)
  refine Tm_ite (fun c => yes (by have := (k 52 (by decide)).1 c; omega)) (fun c52 => ?_)
  refine Tm_ite (fun c => yes (by have := (k 53 (by decide)).1 c; omega)) (fun c53 => ?_)
  refine Tm_ite (fun c => yes (by have := (k 54 (by decide)).1 c; omega)) (fun c54 => ?_)
  refine Tm_ite (fun c => yes (by have := (k 55 (by decide)).1 c; omega)) (fun c55 => ?_)
  refine Tm_ite (fun c => yes (by have := (k 56 (by decide)).1 c; omega)) (fun c56 => ?_)
  refine no (fun z => ?_)
  rcases vs z with z | z | z | z | z | z | z | z | z | z | z | z | z
  · exact c2 z
  · exact c14 z
  · exact c39 z
  · exact c43 z
  · exact c45 z
  · exact c49 z
  · exact c50 z
  · exact c51 z
  · exact c52 z
  · exact c53 z
  · exact c54 z
  · exact c55 z
  · exact c56 z
/-- what may not begin here -/
def Bad (k o st u : Nat) (lo : Option Nat) : Prop := (isOp k ∧ o = 20) ∨ st = 400 ∨ ((k = 49 ∨ k = 50) ∧ lo = none) ∨ (k = 51 ∧ u = 0)
/-- the fault of what may not begin here -/
def bdF (k o st q : Nat) : Nat × Nat := if isOp k ∧ o = 20 then (3, q) else if st = 400 then (8, q) else (7, q)
theorem bdF_3 {k st : Nat} (h : isOp k ∧ o = 20) : bdF k o st q = (3, q) := if_pos h
theorem bdF_8 {k st : Nat} (h : ¬ (isOp k ∧ o = 20)) (h2 : st = 400) : bdF k o st q = (8, q) := (if_neg h).trans (if_pos h2)
theorem bdF_7 {k st : Nat} (h : ¬ (isOp k ∧ o = 20)) (h2 : ¬ st = 400) : bdF k o st q = (7, q) := (if_neg h).trans (if_neg h2)
theorem c_check {x : Fl Unit} (h : QS T n b u al tb o q v mk 0 sz σ) (zf : ZF b u w st lo qh σ) (u42 : u < 42) (hlo : ∀ p, lo = some p → p < 1000000) (hx : (Bad (tkK T n q) o st u lo ∧ x = Sum.inl (bdF (tkK T n q) o st q)) ∨ (¬ Bad (tkK T n q) o st u lo ∧ x = Sum.inr ())) : Tm (fun k => f_X5_checkStatement k 0 L σ) (QPo b u tb.length sz mk x (fun _ _ τ => τ = σ) σ 0 0) := by
  have s0 := Sx_0 h
  have e2 : σ.1 3702 = cKd (tkK T n q) := h.1.2.2.2.2.2.1
  have k : ∀ j, tkV j → (σ.1 3702 = cKd j ↔ tkK T n q = j) := fun j hj => lx_k h hj
  have e5 := h.2.2.2.2.2.1.1
  have o20 := h.2.2.2.2.2.1.2
  have e3 : σ.1 4003 = nI u := h.2.2.2.2.1.2.1
  obtain ⟨_, ⟨z1, z2⟩, z3, _⟩ := zf
  have ref : ∀ (L' : LV) (cd : Nat) (g : Nat → RS → Option RS), Bad (tkK T n q) o st u lo → bdF (tkK T n q) o st q = (cd, q) → L'.1 1 = nI cd → L'.1 2 = σ.1 3703 → 1 ≤ cd ∧ cd ≤ 8 → Tm (fun k => ox (f_X5_refuse k 0 L' σ) (g k)) (QPo b u tb.length sz mk x (fun _ _ τ => τ = σ) σ 0 0) := by
    intro L' cd g hb he j1 j2 hc
    rcases hx with ⟨w1, w2⟩ | ⟨w1, w2⟩
    · rw [w2, he]; exact st_ref s0 j1 (j2.trans (lx_3 h)) hc
    · exact absurd hb w1
  have b11 : ∀ L' : LV, ¬ Bad (tkK T n q) o st u lo → Tm (fun k => f_X5_checkStatement k 11 L' σ) (QPo b u tb.length sz mk x (fun _ _ τ => τ = σ) σ 0 0) := by
    intro L' hb
    rcases hx with ⟨w1, w2⟩ | ⟨w1, w2⟩
    · exact absurd w1 hb
    refine Tm_suc (fun k => by rw [f_X5_checkStatement]) ?_
    rw [w2]
    exact Tm_some (Qfin s0 rfl)
  have b10 : ∀ L' : LV, ¬ (isOp (tkK T n q) ∧ o = 20) → ¬ st = 400 → Bad (tkK T n q) o st u lo → Tm (fun k => f_X5_checkStatement k 10 L' σ) (QPo b u tb.length sz mk x (fun _ _ τ => τ = σ) σ 0 0) := by
    intro L' h1 h2 hb
    refine Tm_suc (fun k => by rw [f_X5_checkStatement]) ?_
    exact ref _ 7 _ hb (bdF_7 h1 h2) rfl rfl (by decide)
  have b9 : ∀ L' : LV, L'.1 1 = σ.1 3702 → ¬ (isOp (tkK T n q) ∧ o = 20) → ¬ st = 400 → ¬ ((tkK T n q = 49 ∨ tkK T n q = 50) ∧ lo = none) → Tm (fun k => f_X5_checkStatement k 9 L' σ) (QPo b u tb.length sz mk x (fun _ _ τ => τ = σ) σ 0 0) := by
    intro L' l1 h1 h2 h3
    have fin : ¬ (tkK T n q = 51 ∧ u = 0) → ¬ Bad (tkK T n q) o st u lo := fun z y => by
      rcases y with y | y | y | y
      · exact h1 y
      · exact h2 y
      · exact h3 y
      · exact z y
    refine Tm_suc (fun k => by rw [f_X5_checkStatement]) ?_
    rw [l1, e3]
    refine Tm_ite (fun c => ?_) (fun c => b11 _ (fin (fun z => c ((k 51 (by decide)).2 z.1))))
    have c51 := (k 51 (by decide)).1 c
    refine Tm_ite (fun d => b10 _ h1 h2 (Or.inr (Or.inr (Or.inr ⟨c51, ?_⟩)))) (fun d => b11 _ (fin (fun z => d ?_)))
    · rw [n_eq0 (by omega)] at d; exact d
    · rw [z.2]; rfl
  have b7 : ∀ L' : LV, L'.1 1 = σ.1 3702 → (L'.1 100 = 0 ↔ lo = none) → ¬ (isOp (tkK T n q) ∧ o = 20) → ¬ st = 400 → Tm (fun k => f_X5_checkStatement k 7 L' σ) (QPo b u tb.length sz mk x (fun _ _ τ => τ = σ) σ 0 0) := by
    intro L' l1 l100 h1 h2
    have b8 : ∀ L8 : LV, L8.1 1 = σ.1 3702 → L8.1 3 = L'.1 100 → (tkK T n q = 49 ∨ tkK T n q = 50) → Tm (fun k => f_X5_checkStatement k 8 L8 σ) (QPo b u tb.length sz mk x (fun _ _ τ => τ = σ) σ 0 0) := by
      intro L8 m1 m3 hk
      refine Tm_suc (fun k => by rw [f_X5_checkStatement]) ?_
      rw [m3]
      refine Tm_ite (fun c => b10 _ h1 h2 (Or.inr (Or.inr (Or.inl ⟨hk, l100.1 c⟩)))) (fun c => b9 _ m1 h1 h2 (fun z => c (l100.2 z.2)))
    refine Tm_suc (fun k => by rw [f_X5_checkStatement]) ?_
    rw [l1]
    refine Tm_ite (fun c => b8 _ l1 rfl (Or.inl ((k 49 (by decide)).1 c))) (fun c49 => ?_)
    refine Tm_ite (fun c => b8 _ l1 rfl (Or.inr ((k 50 (by decide)).1 c))) (fun c50 => ?_)
    exact b9 _ l1 h1 h2 (fun z => z.1.elim (fun y => c49 ((k 49 (by decide)).2 y)) (fun y => c50 ((k 50 (by decide)).2 y)))
  have b4 : ∀ L' : LV, L'.1 1 = σ.1 3702 → ¬ (isOp (tkK T n q) ∧ o = 20) → Tm (fun k => f_X5_checkStatement k 4 L' σ) (QPo b u tb.length sz mk x (fun _ _ τ => τ = σ) σ 0 0) := by
    intro L' l1 h1
    refine Tm_suc (fun k => by rw [f_X5_checkStatement]) ?_
    refine Tm_oP h.2.2.2.2.1.1 ?_
    rw [z1]
    refine Tm_ite (fun c => ?_) (fun c => ?_)
    · have c' : nI st < nI 400 := c
      rw [n_lt (by omega) (by decide)] at c'
      refine Tm_suc (fun k => by rw [f_X5_checkStatement]) ?_
      rw [z3]
      cases lo with
      | none =>
        refine Tm_yes rfl ?_
        refine Tm_suc (fun k => by rw [f_X5_checkStatement]) ?_
        exact b7 _ l1 ⟨fun _ => rfl, fun _ => rfl⟩ h1 (by omega)
      | some p =>
        refine Tm_no (n_mn (by have := hlo p rfl; omega)) ?_
        exact b7 _ l1 ⟨fun z => absurd z (by show ¬ (1 : Int32) = 0; decide), fun z => by cases z⟩ h1 (by omega)
    · have c' : ¬ nI st < nI 400 := c
      rw [n_lt (by omega) (by decide)] at c'
      have e4 : st = 400 := by omega
      exact ref _ 8 _ (Or.inr (Or.inl e4)) (bdF_8 h1 e4) rfl rfl (by decide)
  have b3 : ∀ L' : LV, L'.1 1 = σ.1 3702 → (L'.1 100 = 0 ↔ ¬ isOp (tkK T n q)) → Tm (fun k => f_X5_checkStatement k 3 L' σ) (QPo b u tb.length sz mk x (fun _ _ τ => τ = σ) σ 0 0) := by
    intro L' l1 l100
    refine Tm_suc (fun k => by rw [f_X5_checkStatement]) ?_
    refine Tm_ite (fun c => b4 _ l1 (fun z => l100.1 c z.1)) (fun c => ?_)
    rw [e5]
    refine Tm_ite (fun d => b4 _ l1 (fun z => ?_)) (fun d => ?_)
    · have d' : nI o < nI 20 := d
      rw [n_lt (by omega) (by decide)] at d'
      omega
    · have d' : ¬ nI o < nI 20 := d
      rw [n_lt (by omega) (by decide)] at d'
      have ho : isOp (tkK T n q) := Classical.byContradiction (fun z => c (l100.2 z))
      have e4 : o = 20 := by omega
      exact ref _ 3 _ (Or.inl ⟨ho, e4⟩) (bdF_3 ⟨ho, e4⟩) rfl rfl (by decide)
  have b1 : ∀ L' : LV, L'.1 1 = σ.1 3702 → isOp (tkK T n q) → Tm (fun k => f_X5_checkStatement k 1 L' σ) (QPo b u tb.length sz mk x (fun _ _ τ => τ = σ) σ 0 0) := by
    intro L' l1 ho
    refine Tm_suc (fun k => by rw [f_X5_checkStatement]) ?_
    exact b3 _ l1 ⟨fun z => absurd z (by show ¬ (1 : Int32) = 0; decide), fun z => absurd ho z⟩
  refine Tm_suc (fun k => by rw [f_X5_checkStatement]) ?_
  refine Tm_ite (fun c => b1 _ rfl (by have := (k 10 (by decide)).1 c; omega)) (fun c10 => ?_)
  refine Tm_ite (fun c => b1 _ rfl (by have := (k 39 (by decide)).1 c; omega)) (fun c39 => ?_)
  refine Tm_ite (fun c => b1 _ rfl (by have := (k 43 (by decide)).1 c; omega)) (fun c43 => ?_)
  refine Tm_ite (fun c => b1 _ rfl (by have := (k 45 (by decide)).1 c; omega)) (fun c45 => ?_)
  refine Tm_suc (fun k => by rw [f_X5_checkStatement]) ?_
  refine b3 _ rfl ⟨fun _ z => ?_, fun _ => rfl⟩
  rcases z with z | z | z | z
  · exact c39 ((k 39 (by decide)).2 z)
  · exact c43 ((k 43 (by decide)).2 z)
  · exact c45 ((k 45 (by decide)).2 z)
  · exact c10 ((k 10 (by decide)).2 z)
/-- behind the exps of a print -/
def PsR (T : Nat → Int32) (n : Nat) (b : Bool) (u al : Nat) (gl : Nat × (Nat → Nat → Prop)) (Vm : Nat → Prop) (tb : List Ent) (o mk p sz q v : Nat) (r : RT) (y : Int32) (τ : CS) : Prop := ∃ (c : Nat) (cs : List Int32), y = nI c ∧ QS T n b u al tb o r.1 r.2.1 mk p (sz + cs.length) τ ∧ (∀ i, i < cs.length → cdr b τ (sz + i) = cs.getD i 0) ∧ Sgm u p gl Vm c cs ∧ 2 * cs.length ≤ 3 * (r.1 - q) + 1 ∧ q < r.1 ∧ v ≤ r.2.1
theorem c_expsP {x : Fl RT} (px : ∀ f', f' ≤ f → PXp T n b u al f' e) (h : QS T n b u al tb o q v mk p sz σ) (ev : EvX E b u al gl Vm tb σ) (bd : BdX n o q v mk p sz tb.length) (hG : gb (G T n f 0 E o q v 0 0 0 0 bt) (fun r => GPr T n E f o r.1 r.2.1 r.2.2.2.1 r.2.2.2.2.1) = some x) (hd : 6 * (20 - o) + 8 ≤ e) : Tm (fun k => f_F2 k (e + 1) 2 0 L σ) (QPo b u tb.length sz mk x (PsR T n b u al gl Vm tb o mk p sz q v) σ 0 0) := by
  have s0 := Sy_0 h
  have go := tk_go h
  have n10 := bd.1
  have b1 : ∀ (f1 : Nat), f1 ≤ f → ∀ (L' : LV) (τ' : CS) (a1 a2 c q1 v1 e1 : Nat) (bt1 : BT) (ll : List Int32), GPr T n E f1 o q1 v1 e1 bt1 = some x → 1 ≤ c → c ≤ q1 → L'.1 1 = nI c → L'.1 2 = nI (c - 1) → Sy T n b u al σ tb.length sz mk a1 a2 tb o q1 v1 mk p sz ll τ' → Sgm u p gl Vm c ll → 2 * ll.length ≤ 3 * (q1 - q) + 1 → q < q1 → v ≤ v1 → Tm (fun k => f_F2 k (e + 1) 2 1 L' τ') (QPo b u tb.length sz mk x (PsR T n b u al gl Vm tb o mk p sz q v) σ a1 a2) := by
    intro f1
    induction f1 with
    | zero =>
      intro _ L' τ' a1 a2 c q1 v1 e1 bt1 ll hg
      cases hg
    | succ f1 ih =>
      intro hf L' τ' a1 a2 c q1 v1 e1 bt1 ll hg c1 cq l1 l2 s1 sg ln lt lv
      have go1 := tk_go s1.1.1
      have hg' : (if tkK T n q1 = 12 then gT T n q1 (fun q2 => gb (G T n f1 0 E o q2 v1 0 0 0 0 bt1) (fun r => GPr T n E f1 o r.1 r.2.1 r.2.2.2.1 (bSet r.2.2.2.2.1 9 e1 (nI r.2.2.2.1)))) else some (Sum.inr (q1, v1, 0, e1, bt1, []))) = some x := hg
      refine Tm_suc (fun k => es_1 k _ _ _) ?_
      refine Tm_no ?_ ?_
      · rw [l2]
        show ¬ nI 32768 < nI (c - 1)
        rw [u_ltn (by decide) (by rw [u_n (by omega)]; omega), u_n (by decide), u_n (by omega)]
        omega
      by_cases k12 : tkK T n q1 = 12
      · rw [if_pos k12] at hg'
        have g2 := go1.2.2 (by omega)
        refine Tm_yes ((lx_k (kk := 12) s1.1.1 (by decide)).2 k12) ?_
        refine st_advY s1 (gT_any hg') (fun τ2 r2 er c2 s2 => ?_)
        refine Tm_d ?_
        rw [er]
        have bd2 : BdX n o (tkN T n q1) v1 mk p (sz + ll.length) tb.length := BdX_g bd (by omega) go1.2.1 (Nat.le_refl _) lv (by omega)
        rcases gb_any c2 with ⟨yf, y1, y2⟩ | ⟨r4, y1, y2⟩
        · exact st_exp (C := True) (px f1 (by omega)) (Or.inl ⟨rfl, rfl⟩) s2 (EvX_k ev s2.1.2.1) bd2 rfl hd y1 (Or.inl ⟨_, rfl, y2⟩) (fun _ _ _ _ _ _ z => by cases z)
        · refine st_exp (C := True) (px f1 (by omega)) (Or.inl ⟨rfl, rfl⟩) s2 (EvX_k ev s2.1.2.1) bd2 rfl hd y1 (Or.inr ⟨r4, rfl, trivial⟩) (fun τ5 ret5 p1 p2 r5 l5 hz5 _ s5 xk5 sg5 ln5 lt5 lv5 tg5 => ?_)
          cases hz5
          refine ih (by omega) _ τ5 _ _ (c + 1) r4.1 r4.2.1 _ _ (ll ++ l5) y2 (by omega) (by omega) ?_ ?_ s5 (Sgm_seq sg sg5) ?_ (by omega) (by omega)
          · show L'.1 1 + 1 = _
            rw [l1, n_add1]
          · show L'.1 2 + 1 = nI (c + 1 - 1)
            rw [l2, n_add1]
            exact congrArg nI (by omega)
          · rw [List.length_append]
            omega
      · rw [if_neg k12] at hg'
        refine Tm_no (fun z => k12 ((lx_k (kk := 12) s1.1.1 (by decide)).1 z)) ?_
        refine Tm_suc (fun k => es_2 k _ _ _) ?_
        cases hg'
        exact Tm_some (Qfin s1.1 ⟨c, ll, l1, s1.1.1, s1.2, sg, ln, lt, lv⟩)
  refine Tm_suc (fun k => es_0 k _ _ _) ?_
  refine Tm_d ?_
  rcases gb_any hG with ⟨yf, y1, y2⟩ | ⟨r4, y1, y2⟩
  · exact st_exp (C := True) (px f (Nat.le_refl _)) (Or.inl ⟨rfl, rfl⟩) s0 ev (by show BdX n o q v mk p (sz + 0) tb.length; exact bd) rfl hd y1 (Or.inl ⟨_, rfl, y2⟩) (fun _ _ _ _ _ _ z => by cases z)
  · refine st_exp (C := True) (px f (Nat.le_refl _)) (Or.inl ⟨rfl, rfl⟩) s0 ev (by show BdX n o q v mk p (sz + 0) tb.length; exact bd) rfl hd y1 (Or.inr ⟨r4, rfl, trivial⟩) (fun τ5 ret5 p1 p2 r5 l5 hz5 _ s5 xk5 sg5 ln5 lt5 lv5 tg5 => ?_)
    cases hz5
    exact b1 f (Nat.le_refl _) _ τ5 _ _ 1 r4.1 r4.2.1 _ _ l5 y2 (by omega) (by omega) rfl rfl s5 sg5 ln5 lt5 lv5
end CXP
end JnS500
section JnS501
/-! The class: plain statements are read. -/
section CXQ
variable {σ σ' σ0 τ τ' τ0 : CS} {L : LV} {b : Bool} {T : Nat → Int32} {n q q' u al o v mk mk' p sz szB szE nc nc0 sz0 mk0 a1 a2 m kk f e s ow a t0 g D op w st w' st' M nm deep vv np lp N Bd ns k : Nat} {y qh qh' y0 y1 wd : Int32} {l l' cs cs' cs2 ll lt lt0 : List Int32} {tb : List Ent} {E : En} {gl : Nat × (Nat → Nat → Prop)} {Vm : Nat → Prop} {Pc : Nat → Nat → Prop} {MD : Nat → Nat → Nat} {md : Nat → Nat} {bt : BT} {ks qs qs' qa qb : List Nat} {lo lo' : Option Nat}
/-- the newest of some quits, and those before them -/
def hdQ (szB : Nat) (y0 : Int32) : List Nat → Int32
  | [] => y0
  | j :: _ => nI (szB + j)
/-- quits that wait, each telling the one before it -/
def JsT (szB : Nat) (cs : List Int32) (y0 : Int32) : List Nat → Prop
  | [] => True
  | j :: js => j < cs.length ∧ 1 ≤ szB + j ∧ cs.getD j 0 = em 3 (hdQ szB y0 js) ∧ (∀ i, i ∈ js → ¬ i = j) ∧ JsT szB cs y0 js
theorem hdQ_0 (szB : Nat) : ∀ js : List Nat, hdQ szB 0 js = nI (jsH szB js)
  | [] => rfl
  | _ :: _ => rfl
theorem JsT_0 : ∀ js : List Nat, JsT szB cs 0 js → JsC szB cs js
  | [], _ => trivial
  | j :: js, h => ⟨h.1, h.2.1, by rw [← hdQ_0]; exact h.2.2.1, h.2.2.2.1, JsT_0 js h.2.2.2.2⟩
theorem JsT_l : ∀ js : List Nat, JsT szB cs y0 js → ∀ h, h ∈ js → h < cs.length
  | [], _, h, hh => absurd hh List.not_mem_nil
  | j :: js, z, h, hh => by
    rcases List.mem_cons.1 hh with y | y
    · rw [y]; exact z.1
    · exact JsT_l js z.2.2.2.2 h y
/-- other places may change -/
theorem JsT_o : ∀ js : List Nat, JsT szB cs y0 js → cs.length ≤ cs2.length → (∀ i, i ∈ js → cs2.getD i 0 = cs.getD i 0) → JsT szB cs2 y0 js
  | [], _, _, _ => trivial
  | j :: js, z, hl, he => ⟨Nat.lt_of_lt_of_le z.1 hl, z.2.1, by rw [he j List.mem_cons_self]; exact z.2.2.1, z.2.2.2.1, JsT_o js z.2.2.2.2 hl (fun i hi => he i (List.mem_cons_of_mem _ hi))⟩
/-- one behind another -/
theorem JsT_s : ∀ (js qa : List Nat), JsT szB cs y0 qa → JsT (szB + cs.length) cs2 (hdQ szB y0 qa) js → JsT szB (cs ++ cs2) y0 (shQ cs.length js ++ qa) ∧ hdQ szB y0 (shQ cs.length js ++ qa) = hdQ (szB + cs.length) (hdQ szB y0 qa) js
  | [], qa, h, _ => ⟨JsT_o qa h (by rw [List.length_append]; omega) (fun i hi => gd_l (JsT_l qa h i hi)), rfl⟩
  | j :: js, qa, h, k => by
    obtain ⟨i1, i2⟩ := JsT_s js qa h k.2.2.2.2
    refine ⟨⟨?_, ?_, ?_, fun i hi => ?_, i1⟩, ?_⟩
    · show cs.length + j < (cs ++ cs2).length
      rw [List.length_append]; have := k.1; omega
    · show 1 ≤ szB + (cs.length + j)
      have := k.2.1; omega
    · show (cs ++ cs2).getD (cs.length + j) 0 = em 3 (hdQ szB y0 (shQ cs.length js ++ qa))
      rw [gd_r, k.2.2.1, i2]
    · show ¬ i = cs.length + j
      rcases List.mem_append.1 hi with z | z
      · obtain ⟨i', z1, z2⟩ := shQ_m.1 z
        have := k.2.2.2.1 i' z1
        omega
      · have := JsT_l qa h i z
        omega
    · show nI (szB + (cs.length + j)) = nI (szB + cs.length + j)
      rw [Nat.add_assoc]
/-- quits in another order -/
theorem Stm_q (h : Stm u gl Pc Vm w N lo Bd ns qs cs) (hm : ∀ i, i ∈ qs' ↔ i ∈ qs) (pw : qs'.Pairwise (fun a b => ¬ a = b)) : Stm u gl Pc Vm w N lo Bd ns qs' cs := by
  obtain ⟨⟨p1, p2⟩, hh⟩ := h
  refine ⟨⟨fun i hi => p1 i ((hm i).1 hi), pw⟩, fun O H nu R ρ c ms C ti eN no hD cn lp hR1 hR2 h2 hB hN hC1 hC2 => ?_⟩
  obtain ⟨D, t, e1, e2, e3⟩ := hh O H nu R ρ c ms C ti eN no hD cn lp hR1 hR2 h2 hB hN hC1 (fun i hi hn => hC2 i hi (fun z => hn ((hm i).1 z)))
  exact ⟨D, TI_h t (fun q => ⟨fun z => z.imp id (fun ⟨i, a1, a2⟩ => ⟨i, (hm i).1 a1, a2⟩), fun z => z.imp id (fun ⟨i, a1, a2⟩ => ⟨i, (hm i).2 a1, a2⟩)⟩), e1, e2, fun i hi => e3 i ((hm i).1 hi)⟩
theorem JsT_p : ∀ js : List Nat, JsT szB cs y0 js → js.Pairwise (fun a b => ¬ a = b)
  | [], _ => List.Pairwise.nil
  | j :: js, z => List.Pairwise.cons (fun a ha e => z.2.2.2.1 a ha e.symm) (JsT_p js z.2.2.2.2)
/-- so many quits at most wait -/
def lqN (lo : Option Nat) (ns : Nat) : Nat := match lo with
  | none => 0
  | some _ => ns
theorem lqN_m {x y : Nat} (h : x ≤ y) : lqN lo x ≤ lqN lo y := by
  cases lo with
  | none => exact Nat.le_refl _
  | some _ => exact h
theorem lqN_a {x y a b : Nat} (h1 : a ≤ lqN lo x) (h2 : b ≤ lqN lo y) : a + b ≤ lqN lo (x + y) := by
  cases lo with
  | none =>
    have h1' : a ≤ 0 := h1
    have h2' : b ≤ 0 := h2
    show a + b ≤ 0
    omega
  | some _ =>
    have h1' : a ≤ x := h1
    have h2' : b ≤ y := h2
    show a + b ≤ x + y
    omega
/-- behind a statement that began at N -/
def S1R (T : Nat → Int32) (n : Nat) (b : Bool) (u al : Nat) (gl : Nat × (Nat → Nat → Prop)) (Pc : Nat → Nat → Prop) (Vm : Nat → Prop) (tb : List Ent) (o mk N q v w st : Nat) (lo : Option Nat) (qh : Int32) (Bd c : Nat) (r : Nat × Nat × Nat) (τ : CS) : Prop := ∃ (ll : List Int32) (qs : List Nat) (ns : Nat), QS T n b u al tb o r.1 r.2.1 mk 0 (N + 1 + ll.length) τ ∧ (∀ i, i < ll.length → cdr b τ (N + 1 + i) = ll.getD i 0) ∧ ZF b u w r.2.2 lo (hdQ N qh qs) τ ∧ Stm u gl Pc Vm w N lo Bd ns qs (em 0 (nI q) :: ll) ∧ JsT N (em 0 (nI q) :: ll) qh qs ∧ (2 * ll.length ≤ 7 * (r.1 - q) + c ∧ ns + st ≤ r.2.2 + 1 ∧ qs.length ≤ lqN lo ns) ∧ q < r.1 ∧ v ≤ r.2.1
/-! the grammar of plain statements, without the ; -/
def gP0 (T : Nat → Int32) (n f : Nat) (E : En) (o k q v : Nat) (b : BT) : RG := if k = 51 then (if tkK T n q = 13 then some (Sum.inr (q, v, 0, 0, b, [])) else G T n f 0 E o q v 0 0 0 0 b) else if k = 52 then (if tkK T n q = 6 then gO o q (gT T n q (fun q2 => gb (gb (G T n f 0 E (o + 1) q2 v 0 0 0 0 b) (fun r => GPr T n E f (o + 1) r.1 r.2.1 r.2.2.2.1 r.2.2.2.2.1)) (fun s => gW T n 7 s.1 (fun q3 => some (Sum.inr (q3, s.2.1, 0, 0, b, [])))))) else some (Sum.inl (2, q))) else if k = 53 then G T n f 0 E o q v 0 0 0 0 b else some (Sum.inr (q, v, 0, 0, b, []))
theorem gSm_0 {x : Fl RT} (h : gSm T n f lp E o q v bt = some x) (hk : 49 ≤ tkK T n q ∧ tkK T n q ≤ 56) : ((((tkK T n q = 49 ∨ tkK T n q = 50) ∧ lp = 0) ∨ (tkK T n q = 51 ∧ (E.2.2.2.1 = 0 ∨ 41 < E.2.2.2.1))) ∧ x = Sum.inl (7, q)) ∨ (¬ (((tkK T n q = 49 ∨ tkK T n q = 50) ∧ lp = 0) ∨ (tkK T n q = 51 ∧ (E.2.2.2.1 = 0 ∨ 41 < E.2.2.2.1))) ∧ ∃ z, gT T n q (fun q1 => gP0 T n f E o (tkK T n q) q1 v bt) = some z ∧ Sem T n x (zq z)) := by
  unfold gSm at h
  by_cases hb : (((tkK T n q = 49 ∨ tkK T n q = 50) ∧ lp = 0) ∨ (tkK T n q = 51 ∧ (E.2.2.2.1 = 0 ∨ 41 < E.2.2.2.1)))
  · rw [if_pos hb] at h
    exact Or.inl ⟨hb, (Option.some.inj h).symm⟩
  rw [if_neg hb] at h
  refine Or.inr ⟨hb, ?_⟩
  rcases gT_any h with ⟨w1, w2⟩ | ⟨w1, w2⟩
  · exact ⟨_, gT_n w1, Or.inl ⟨_, rfl, w2⟩⟩
  rw [gT_y w1]
  unfold gSm0 gS13 at w2
  unfold gP0
  by_cases k51 : tkK T n q = 51
  · rw [if_pos (by omega)] at w2
    rw [if_pos k51]
    by_cases k13 : tkK T n (tkN T n q) = 13
    · rw [if_pos k13] at w2 ⊢
      exact ⟨Sum.inr _, rfl, Or.inr ⟨_, _, _, rfl, w2⟩⟩
    · rw [if_neg k13] at w2 ⊢
      rcases gb_any w2 with ⟨yf, y1, y2⟩ | ⟨s, y1, y2⟩
      · exact ⟨Sum.inl yf, y1, Or.inl ⟨_, rfl, y2⟩⟩
      · exact ⟨Sum.inr s, y1, Or.inr ⟨_, _, _, rfl, y2⟩⟩
  rw [if_neg (by omega)] at w2
  rw [if_neg k51]
  by_cases k52 : tkK T n q = 52
  · rw [if_pos (by omega)] at w2
    rw [if_pos k52]
    by_cases k6 : tkK T n (tkN T n q) = 6
    case neg =>
      rw [if_neg k6] at w2 ⊢
      exact ⟨Sum.inl (2, tkN T n q), rfl, Or.inl ⟨_, rfl, (Option.some.inj w2).symm⟩⟩
    rw [if_pos k6] at w2 ⊢
    rcases gO_any w2 with ⟨y1, y2⟩ | ⟨y1, y2⟩
    · exact ⟨Sum.inl (3, tkN T n q), by unfold gO; rw [if_pos y1], Or.inl ⟨_, rfl, y2⟩⟩
    unfold gO
    rw [if_neg y1]
    rcases gT_any y2 with ⟨y3, y4⟩ | ⟨y3, y4⟩
    · exact ⟨_, gT_n y3, Or.inl ⟨_, rfl, y4⟩⟩
    rw [gT_y y3]
    rcases gb_any y4 with ⟨yf, y5, y6⟩ | ⟨r, y5, y6⟩
    · exact ⟨Sum.inl yf, by rw [y5]; rfl, Or.inl ⟨_, rfl, y6⟩⟩
    rw [y5]
    show ∃ z, gb (GPr T n E f (o + 1) r.1 r.2.1 r.2.2.2.1 r.2.2.2.2.1) (fun s => gW T n 7 s.1 (fun q3 => some (Sum.inr (q3, s.2.1, 0, 0, bt, [])))) = some z ∧ _
    rcases gb_any y6 with ⟨yf, y7, y8⟩ | ⟨s, y7, y8⟩
    · exact ⟨Sum.inl yf, by rw [y7]; rfl, Or.inl ⟨_, rfl, y8⟩⟩
    rw [y7]
    show ∃ z, gW T n 7 s.1 (fun q3 => some (Sum.inr (q3, s.2.1, 0, 0, bt, []))) = some z ∧ _
    rcases gW_any y8 with ⟨y9, ya⟩ | ⟨y9, ya⟩
    · exact ⟨_, gW_n y9, Or.inl ⟨_, rfl, ya⟩⟩
    · exact ⟨Sum.inr _, gW_y y9, Or.inr ⟨_, _, _, rfl, ya⟩⟩
  rw [if_neg (by omega)] at w2
  rw [if_neg k52]
  by_cases k53 : tkK T n q = 53
  · rw [if_pos (by omega)] at w2
    rw [if_pos k53]
    rcases gb_any w2 with ⟨yf, y1, y2⟩ | ⟨s, y1, y2⟩
    · exact ⟨Sum.inl yf, y1, Or.inl ⟨_, rfl, y2⟩⟩
    · exact ⟨Sum.inr s, y1, Or.inr ⟨_, _, _, rfl, y2⟩⟩
  · rw [if_neg (by omega)] at w2
    rw [if_neg k53]
    exact ⟨Sum.inr _, rfl, Or.inr ⟨_, _, _, rfl, w2⟩⟩
theorem ck_w {k : Nat} (h : 49 ≤ k ∧ k ≤ 56) : cKd k = nI k := by
  have c : k = 49 ∨ k = 50 ∨ k = 51 ∨ k = 52 ∨ k = 53 ∨ k = 54 ∨ k = 55 ∨ k = 56 := by omega
  rcases c with c | c | c | c | c | c | c | c <;> (rw [c]; rfl)
theorem c_plain {x : Fl RT} (h : QS T n b u al tb o q v mk 0 (N + 1) σ) (zf : ZF b u w st lo qh σ) (sx : StX n E b u al gl Vm Pc MD tb σ) (bd : BdS n o q v mk (N + 1) tb.length) (hk : 49 ≤ tkK T n q ∧ tkK T n q ≤ 56 ∧ ¬ tkK T n q = 52) (hl : tkK T n q = 49 ∨ tkK T n q = 50 → ∃ P0, lo = some P0) (hu : tkK T n q = 51 → ¬ u = 0) (hp : q < 8388608) (hG : gT T n q (fun q1 => gP0 T n f E o (tkK T n q) q1 v bt) = some x) : Tm (fun k => f_X5_plainStatement k 0 L σ) (ZPo b u tb.length (N + 1) mk (zq x) (fun r _ τ => S1R T n b u al gl Pc Vm tb o mk N q v w st lo qh Bd 0 (r.1, r.2, st) τ) σ 0 0) := by
  have s0 := Zy_0 h zf
  have go := tk_go h
  have g1 := go.2.2 (by omega)
  obtain ⟨bd1, bd2, bd3⟩ := bd
  obtain ⟨ev, pr, pe, n3, n10⟩ := sx
  have e2 : σ.1 3702 = nI (tkK T n q) := by rw [h.1.2.2.2.2.2.1]; exact ck_w ⟨hk.1, hk.2.1⟩
  have v60 := h.2.2.2.2.2.2.1.2
  have st4 := zf.2.1.2
  refine Tm_suc (fun k => by rw [f_X5_plainStatement]) ?_
  rcases gT_any hG with ⟨w1, w2⟩ | ⟨w1, w2⟩
  · rw [w2]
    exact zt_adv (C := False) s0 (Or.inl ⟨w1, rfl⟩) (fun _ _ _ _ c _ _ => c.elim)
  refine zt_adv (C := True) s0 (Or.inr ⟨w1, trivial⟩) (fun τ1 ret1 n1 n2 _ s1 xk1 => ?_)
  have go1 := tk_go s1.1.1
  have ev1 := EvX_z ev s1.1.2.1
  have bdx : BdX n o (tkN T n q) v mk 0 (N + 1 + 0) tb.length := ⟨n10, by omega, by omega, bd3, by omega⟩
  -- a piece that is whole in itself
  have fin : ∀ (L' : LV) (τ' : CS) (a1 a2 q2 v2 : Nat) (ll : List Int32) (x : Fl RT), zq x = Sum.inr (q2, v2) → Zy T n b u al σ tb.length (N + 1) mk a1 a2 tb o q2 v2 mk w st lo qh (N + 1) ll τ' → Stm u gl Pc Vm w N lo Bd 1 [] (em 0 (nI q) :: ll) → 2 * ll.length ≤ 7 * (q2 - q) → q < q2 → v ≤ v2 → Tm (fun k => f_X5_plainStatement k 8 L' τ') (ZPo b u tb.length (N + 1) mk (zq x) (fun r _ τ => S1R T n b u al gl Pc Vm tb o mk N q v w st lo qh Bd 0 (r.1, r.2, st) τ) σ a1 a2) := by
    intro L' τ' a1 a2 q2 v2 ll x hx s2 ty ln lq lv
    refine Tm_suc (fun k => by rw [f_X5_plainStatement]) ?_
    rw [hx]
    exact Tm_some (Zfin s2 ⟨ll, [], 1, s2.1.1, s2.2.1, s2.2.2, ty, trivial, ⟨by show 2 * ll.length ≤ 7 * (q2 - q) + 0; omega, by show 1 + st ≤ st + 1; omega, Nat.zero_le _⟩, lq, lv⟩)
  unfold gP0 at w2
  rw [e2]
  by_cases k49 : tkK T n q = 49
  · -- quit
    rw [k49, if_neg (by decide), if_neg (by decide), if_neg (by decide)] at w2
    rw [k49]
    refine Tm_yes rfl ?_
    refine Tm_suc (fun k => by rw [f_X5_plainStatement]) ?_
    refine Tm_oP (Zy_pp s1) ?_
    have e9 : τ1.1 4009 = qh := s1.2.2.2.2.2.1
    rw [e9]
    refine zt_emit (op := 3) s1 rfl rfl (by show N + 1 + 0 + 1 ≤ _; omega) (fun τ2 n3' n4 s2 xk2 => ?_)
    have zf2 := s2.2.2
    have fc := fP_c b 3
    have s3 : Zy T n b u al σ tb.length (N + 1) mk (0 + n1 + n3') (0 + n2 + n4) tb o (tkN T n q) v mk w st lo (nI (N + 1)) (N + 1) [em 3 qh] (uI τ2 4009 (nI (N + 1))) := Zy_g s2 (fun j hj => uI_o (by omega)) rfl (by rw [uI_o (by decide)]; exact s2.1.1.2.2.1.1) (Nat.le_refl _) (Nat.le_refl _) ⟨zf2.1, ⟨by rw [uI_o (by omega)]; exact zf2.2.1.1, zf2.2.1.2⟩, by rw [uI_o (by decide)]; exact zf2.2.2.1, uI_s, zf2.2.2.2.2⟩
    refine Tm_suc (fun k => by rw [f_X5_plainStatement]) ?_
    rw [← Option.some.inj w2]
    refine Tm_some (Zfin s3 ⟨[em 3 qh], [1], 1, s3.1.1, s3.2.1, s3.2.2, Stm_qu hp, ⟨by show 1 < 2; decide, by omega, rfl, fun i hi => absurd hi List.not_mem_nil, trivial⟩, ⟨by show 2 * 1 ≤ 7 * (tkN T n q - q) + 0; omega, by show 1 + st ≤ st + 1; omega, by obtain ⟨P0, eP⟩ := hl (Or.inl k49); rw [eP]; exact Nat.le_refl 1⟩, g1, Nat.le_refl _⟩)
  refine Tm_no (by show ¬ nI (tkK T n q) = nI 49; rw [n_eq (by omega) (by decide)]; exact k49) ?_
  by_cases k50 : tkK T n q = 50
  · -- continue
    rw [k50, if_neg (by decide), if_neg (by decide), if_neg (by decide)] at w2
    obtain ⟨P0, hl0⟩ := hl (Or.inr k50)
    rw [k50]
    refine Tm_yes rfl ?_
    refine Tm_suc (fun k => by rw [f_X5_plainStatement]) ?_
    refine Tm_oP (Zy_pp s1) (Tm_oP (Zy_pp s1) ?_)
    refine zt_emit (op := 3) s1 rfl rfl (by show N + 1 + 0 + 1 ≤ _; omega) (fun τ2 n3' n4 s2 xk2 => ?_)
    have s2' : Zy T n b u al σ tb.length (N + 1) mk (0 + n1 + n3') (0 + n2 + n4) tb o (tkN T n q) v mk w st lo qh (N + 1) [em 3 0] τ2 := s2
    have e8 : τ2.1 4008 = nI P0 := by have z := s2'.2.2.2.2.1; rw [hl0] at z; exact z
    refine Tm_op (c_aim (op := 3) (x := 0) (h := 0) (Sy_z s2') (Nat.le_refl _) (by show 0 < 1; decide) (by decide) rfl rfl rfl) (fun r3 z3 => ?_)
    have s3 := Zy_s s2' z3 (Nat.le_refl _)
    have ew : (lI (lI (lB lZ 0 b) 1 (nI (N + 1))) 2 (τ2.1 4008)).1 2 - (lI (lI (lB lZ 0 b) 1 (nI (N + 1))) 2 (τ2.1 4008)).1 1 = nI P0 - nI (N + 1) := by
      show τ2.1 4008 - nI (N + 1) = _
      rw [e8]
    have s3' : Zy T n b u al σ tb.length (N + 1) mk (0 + n1 + n3' + 0) (0 + n2 + n4 + 0) tb o (tkN T n q) v mk w st lo qh (N + 1) [em 3 (nI P0 - nI (N + 1))] r3.2 := by
      have z : [em 3 (nI P0 - nI (N + 1))] = [em 3 0].set 0 (em 3 ((lI (lI (lB lZ 0 b) 1 (nI (N + 1))) 2 (τ2.1 4008)).1 2 - (lI (lI (lB lZ 0 b) 1 (nI (N + 1))) 2 (τ2.1 4008)).1 1)) := by rw [ew]; rfl
      rw [z]; exact s3
    refine fin _ r3.2 _ _ (tkN T n q) v _ x (by rw [← Option.some.inj w2]; rfl) s3' (Stm_co hl0 hp) (by show 2 * 1 ≤ _; omega) g1 (Nat.le_refl _)
  refine Tm_no (by show ¬ nI (tkK T n q) = nI 50; rw [n_eq (by omega) (by decide)]; exact k50) ?_
  by_cases k51 : tkK T n q = 51
  · -- return
    rw [if_pos k51] at w2
    rw [k51]
    refine Tm_yes rfl ?_
    have b10 : ∀ (L' : LV) (τ' : CS) (a1 a2 q2 v2 : Nat) (ll : List Int32) (x : Fl RT), zq x = Sum.inr (q2, v2) → Zy T n b u al σ tb.length (N + 1) mk a1 a2 tb o q2 v2 mk w st lo qh (N + 1) ll τ' → Sgm u 0 gl Vm 1 ll → 2 * ll.length ≤ 3 * (q2 - q) + 2 → q < q2 → v ≤ v2 → Tm (fun k => f_X5_plainStatement k 10 L' τ') (ZPo b u tb.length (N + 1) mk (zq x) (fun r _ τ => S1R T n b u al gl Pc Vm tb o mk N q v w st lo qh Bd 0 (r.1, r.2, st) τ) σ a1 a2) := by
      intro L' τ' a1 a2 q2 v2 ll x hx s2 sg ln lq lv
      have go2 := tk_go s2.1.1
      refine Tm_suc (fun k => by rw [f_X5_plainStatement]) ?_
      refine Tm_oP (Zy_pp s2) ?_
      refine zt_emit (op := 20) s2 rfl rfl (by omega) (fun τ3 n3' n4 s3 xk3 => ?_)
      have s3' : Zy T n b u al σ tb.length (N + 1) mk (a1 + n3') (a2 + n4) tb o q2 v2 mk w st lo qh (N + 1) (ll ++ [em 20 0]) τ3 := s3
      have ty : Sse u gl Pc Vm [] 0 0 0 (ll ++ [em 20 0]) := by
        have z := Sst_sg (Pc := Pc) (pre := []) sg 0
        have z2 := Sse_i (pre := []) (Is_ep (u := u) (gl := gl) (Pc := Pc) (Vm := Vm) (m := 0 + 1) (by omega) (hu k51)) (Nat.le_refl _) (by omega)
        exact Sse_seq z z2 (by have := sg.1; omega)
      refine fin _ τ3 _ _ q2 v2 _ x hx s3' (Stm_s ty (by omega) hp) ?_ lq lv
      rw [List.length_append]
      show 2 * (ll.length + 1) ≤ _
      omega
    have w6 := tk_wl (m := 6) h k51 (by decide) rfl
    refine Tm_suc (fun k => by rw [f_X5_plainStatement]) ?_
    by_cases k13 : tkK T n (tkN T n q) = 13
    · rw [if_pos k13] at w2
      refine Tm_yes ((lx_k (kk := 13) s1.1.1 (by decide)).2 k13) ?_
      refine zt_push s1 lit_om (by show N + 1 + 0 + 2 ≤ _; omega) (fun τ2 ret2 n3' n4 s2 xk2 => ?_)
      exact b10 _ τ2 _ _ (tkN T n q) v _ x (by rw [← Option.some.inj w2]; rfl) s2 (Sgm_1 (by show 1 ≤ 2; decide) (by show 1 ≤ 2; decide) (It_pu lit_om)) (by show 2 * 2 ≤ _; omega) g1 (Nat.le_refl _)
    · rw [if_neg k13] at w2
      refine Tm_no (fun z => k13 ((lx_k (kk := 13) s1.1.1 (by decide)).1 z)) ?_
      refine Tm_suc (fun k => by rw [f_X5_plainStatement]) ?_
      cases x with
      | inl yf => exact zt_exp (C := True) s1 ev1 bdx rfl w2 (Or.inl ⟨_, rfl, rfl⟩) (fun _ _ _ _ _ _ z => by cases z)
      | inr r =>
        refine zt_exp (C := True) s1 ev1 bdx rfl w2 (Or.inr ⟨r, rfl, trivial⟩) (fun τ2 ret2 n3' n4 r' ll hz _ s2 xk2 sg ln lt lv tg => ?_)
        cases hz
        exact b10 _ τ2 _ _ r.1 r.2.1 ll (Sum.inr r) rfl s2 sg (by omega) (by omega) lv
  refine Tm_no (by show ¬ nI (tkK T n q) = nI 51; rw [n_eq (by omega) (by decide)]; exact k51) ?_
  rw [if_neg k51, if_neg hk.2.2] at w2
  refine Tm_no (by show ¬ nI (tkK T n q) = nI 52; rw [n_eq (by omega) (by decide)]; exact hk.2.2) ?_
  by_cases k53 : tkK T n q = 53
  · -- assert
    rw [if_pos k53] at w2
    rw [k53]
    refine Tm_yes rfl ?_
    have w6 := tk_wl (m := 6) h k53 (by decide) rfl
    refine Tm_suc (fun k => by rw [f_X5_plainStatement]) ?_
    cases x with
    | inl yf => exact zt_exp (C := True) s1 ev1 bdx rfl w2 (Or.inl ⟨_, rfl, rfl⟩) (fun _ _ _ _ _ _ z => by cases z)
    | inr r =>
      refine zt_exp (C := True) s1 ev1 bdx rfl w2 (Or.inr ⟨r, rfl, trivial⟩) (fun τ2 ret2 n3' n4 r' ll hz _ s2 xk2 sg ln lt lv tg => ?_)
      cases hz
      have go2 := tk_go s2.1.1
      refine Tm_oP (Zy_pp s2) ?_
      have s2' : Zy T n b u al σ tb.length (N + 1) mk (0 + n1 + n3') (0 + n2 + n4) tb o r.1 r.2.1 mk w st lo qh (N + 1) ll τ2 := s2
      refine zt_emit (op := 24) s2' rfl rfl (by omega) (fun τ3 n5 n6 s3 xk3 => ?_)
      have s3' : Zy T n b u al σ tb.length (N + 1) mk (0 + n1 + n3' + n5) (0 + n2 + n4 + n6) tb o r.1 r.2.1 mk w st lo qh (N + 1) (ll ++ [em 24 0]) τ3 := s3
      have ty : Sse u gl Pc Vm [] 0 0 0 (ll ++ [em 24 0]) := by
        have z := Sst_sg (Pc := Pc) (pre := []) sg 0
        have z2 := Sse_i (pre := []) (Is_as (u := u) (gl := gl) (Pc := Pc) (Vm := Vm) (pre := []) (n := 0)) (Nat.le_refl _) (by omega)
        exact Sse_seq z z2 (by have := sg.1; omega)
      refine fin _ τ3 _ _ r.1 r.2.1 _ (Sum.inr r) rfl s3' (Stm_s ty (by omega) hp) ?_ (by omega) lv
      rw [List.length_append]
      show 2 * (ll.length + 1) ≤ _
      omega
  refine Tm_no (by show ¬ nI (tkK T n q) = nI 53; rw [n_eq (by omega) (by decide)]; exact k53) ?_
  rw [if_neg k53] at w2
  have hx : zq x = Sum.inr (tkN T n q, v) := by rw [← Option.some.inj w2]; rfl
  by_cases k54 : tkK T n q = 54
  · rw [k54]
    refine Tm_yes rfl ?_
    refine Tm_suc (fun k => by rw [f_X5_plainStatement]) ?_
    refine Tm_oP (Zy_pp s1) ?_
    refine zt_emit (op := 2) s1 rfl rfl (by show N + 1 + 0 + 1 ≤ _; omega) (fun τ2 n3' n4 s2 xk2 => ?_)
    exact fin _ τ2 _ _ (tkN T n q) v [em 2 0] x hx s2 (Stm_s (Sse_i Is_st (Nat.le_refl _) (by omega)) (Nat.zero_le _) hp) (by show 2 * 1 ≤ _; omega) g1 (Nat.le_refl _)
  refine Tm_no (by show ¬ nI (tkK T n q) = nI 54; rw [n_eq (by omega) (by decide)]; exact k54) ?_
  by_cases k55 : tkK T n q = 55
  · rw [k55]
    refine Tm_yes rfl ?_
    refine Tm_suc (fun k => by rw [f_X5_plainStatement]) ?_
    refine Tm_oP (Zy_pp s1) ?_
    refine zt_emit (op := 23) s1 rfl rfl (by show N + 1 + 0 + 1 ≤ _; omega) (fun τ2 n3' n4 s2 xk2 => ?_)
    exact fin _ τ2 _ _ (tkN T n q) v [em 23 0] x hx s2 (Stm_s (Sse_i Is_su (Nat.le_refl _) (by omega)) (Nat.zero_le _) hp) (by show 2 * 1 ≤ _; omega) g1 (Nat.le_refl _)
  refine Tm_no (by show ¬ nI (tkK T n q) = nI 55; rw [n_eq (by omega) (by decide)]; exact k55) ?_
  refine Tm_suc (fun k => by rw [f_X5_plainStatement]) ?_
  refine Tm_oP (Zy_pp s1) ?_
  refine zt_emit (op := 22) s1 rfl rfl (by show N + 1 + 0 + 1 ≤ _; omega) (fun τ2 n3' n4 s2 xk2 => ?_)
  exact fin _ τ2 _ _ (tkN T n q) v [em 22 0] x hx s2 (Stm_fa hp) (by show 2 * 1 ≤ _; omega) g1 (Nat.le_refl _)
end CXQ
end JnS501
section JnS502
/-! The class: loops are read. -/
section CXR
variable {σ σ' σ0 τ τ' τ0 : CS} {L : LV} {b : Bool} {T : Nat → Int32} {n q q' u al o v mk mk' p sz szB szE nc nc0 sz0 mk0 a1 a2 m kk f e s0 ow a t0 g D w st w' st' M nm deep vv np lp N Bd ns k d P : Nat} {y qh qh' y0 y1 wd : Int32} {l l' cs cs' cs2 ll lt lt0 : List Int32} {tb : List Ent} {E : En} {gl : Nat × (Nat → Nat → Prop)} {Vm : Nat → Prop} {Pc : Nat → Nat → Prop} {MD : Nat → Nat → Nat} {md : Nat → Nat} {bt : BT} {ks qs qs' qa qb : List Nat} {lo lo' : Option Nat} {s : SB}
theorem jsF_g : ∀ (js : List Nat) (cs : List Int32), JsC szB cs js → ∀ i, (i ∈ js → (jsF cs js).getD i 0 = em 3 (nI (cs.length - i))) ∧ (¬ i ∈ js → (jsF cs js).getD i 0 = cs.getD i 0)
  | [], cs, _, i => ⟨fun z => absurd z List.not_mem_nil, fun _ => rfl⟩
  | j :: js, cs, h, i => by
    have l : (cs.set j (em 3 (nI (cs.length - j)))).length = cs.length := List.length_set
    obtain ⟨k1, k2⟩ := jsF_g js (cs.set j (em 3 (nI (cs.length - j)))) (JsC_set js cs j h.2.2.2.1 h.2.2.2.2) i
    rw [l] at k1
    refine ⟨fun z => ?_, fun z => ?_⟩
    · show (jsF (cs.set j (em 3 (nI (cs.length - j)))) js).getD i 0 = _
      by_cases c : i ∈ js
      · exact k1 c
      · rcases List.mem_cons.1 z with y | y
        · rw [k2 c, gd_set, if_pos ⟨y, h.1⟩, y]
        · exact absurd y c
    · show (jsF (cs.set j (em 3 (nI (cs.length - j)))) js).getD i 0 = _
      rw [k2 (fun y => z (List.mem_cons_of_mem _ y)), gd_set, if_neg (fun y => z (by rw [y.1]; exact List.mem_cons_self))]
/-- ranks wanted of what stands so deep, with so many variables told -/
def bdO (o v : Nat) : Nat := 3 * (20 - o) + 2 * (60 - v)
/-- behind a block that began at N -/
def BlR (T : Nat → Int32) (n : Nat) (b : Bool) (u al : Nat) (gl : Nat × (Nat → Nat → Prop)) (Pc : Nat → Nat → Prop) (Vm : Nat → Prop) (tb : List Ent) (o mk N q v w st : Nat) (lo : Option Nat) (qh : Int32) (r : Nat × Nat × Nat) (τ : CS) : Prop := ∃ (cs : List Int32) (qs : List Nat) (ns : Nat), QS T n b u al tb o r.1 r.2.1 mk 0 (N + cs.length) τ ∧ (∀ i, i < cs.length → cdr b τ (N + i) = cs.getD i 0) ∧ ZF b u w r.2.2 lo (hdQ N qh qs) τ ∧ Stm u gl Pc Vm w N lo (bdO o v) ns qs cs ∧ JsT N cs qh qs ∧ (2 * cs.length ≤ 7 * (r.1 - q) ∧ ns + st ≤ r.2.2 ∧ qs.length ≤ lqN lo ns) ∧ q ≤ r.1 ∧ v ≤ r.2.1
/-- what a block comes to, here and there -/
def Bem (T : Nat → Int32) (n : Nat) (x : Fl ST) (z : Fl (Nat × Nat × Nat)) : Prop := (∃ ye, z = Sum.inl ye ∧ x = Sum.inl ye) ∨ ∃ r, z = Sum.inr r ∧ ((x = Sum.inl (2, r.1) ∧ ¬ isBE (tkK T n r.1)) ∨ ∃ t, x = Sum.inr t ∧ t.1 = r.1 ∧ t.2.1 = r.2.1 ∧ t.2.2.2.2.2.1 = r.2.2)
/-- what statements stand in -/
def CxS (n : Nat) (E : En) (b : Bool) (u al : Nat) (gl : Nat × (Nat → Nat → Prop)) (Vm : Nat → Prop) (Pc : Nat → Nat → Prop) (MD : Nat → Nat → Nat) (tb : List Ent) (lp : Nat) (lo : Option Nat) (σ : CS) : Prop := StX n E b u al gl Vm Pc MD tb σ ∧ E.2.2.2.1 = u ∧ u < 41 ∧ (lp = 0 ↔ lo = none) ∧ ∀ p, lo = some p → p < 100000
def BdB (n o q v mk N w nt : Nat) : Prop := 2 * N + 7 * (n - q) + 110 ≤ 73728 ∧ mk ≤ 2 * q + 18 * o ∧ nt + (60 - v) ≤ 256 ∧ w ≤ 3 * v
/-- blocks, as the grammar has them -/
def PBk (T : Nat → Int32) (n : Nat) (b : Bool) (u al : Nat) (MD : Nat → Nat → Nat) (f : Nat) : Prop := ∀ (E : En) (lp o q v : Nat) (pe : Int32) (i l : Nat) (bt : BT) (s : SB) (x : Fl ST), q ≤ n → v ≤ 60 → s.1 ≤ 400 → 1 ≤ bt.1 → GS T n MD f 0 E lp o q v pe i l bt s = some x → ∃ z : Fl (Nat × Nat × Nat), Bem T n x z ∧ ∀ (d : Nat) (gl : Nat × (Nat → Nat → Prop)) (Pc : Nat → Nat → Prop) (Vm : Nat → Prop) (tb : List Ent) (mk N w : Nat) (lo : Option Nat) (qh : Int32) (σ : CS) (L : LV), QS T n b u al tb o q v mk 0 N σ → ZF b u w s.1 lo qh σ → CxS n E b u al gl Vm Pc MD tb lp lo σ → BdB n o q v mk N w tb.length → 4 * (20 - o) + 1 ≤ d → Tm (fun k => f_F3 k d 0 0 L σ) (ZPo b u tb.length N mk z (fun r _ τ => BlR T n b u al gl Pc Vm tb o mk N q v w s.1 lo qh r τ) σ 0 0)
/-- what a statement comes to, before its ; -/
def SemS (T : Nat → Int32) (n : Nat) (y : Fl ST) (z : Fl (Nat × Nat × Nat)) : Prop := (∃ ye, z = Sum.inl ye ∧ y = Sum.inl ye) ∨ ∃ (r : Nat × Nat × Nat) (nd : Nat) (bb : BT) (ss : SB), z = Sum.inr r ∧ hW T n 13 r.1 (fun q3 => some (Sum.inr (q3, r.2.1, 0, nd, bb, ss))) = some y ∧ ss.1 = r.2.2
theorem hT_n {k : Nat → SR} (h : tkK T n (tkN T n q) = 0) : hT T n q k = some (Sum.inl (1, tkN T n q)) := by unfold hT; rw [if_pos h]
theorem hT_y {k : Nat → SR} (h : ¬ tkK T n (tkN T n q) = 0) : hT T n q k = k (tkN T n q) := by unfold hT; rw [if_neg h]
/-- a loop's statements and end -/
def lbZ (T : Nat → Int32) (n : Nat) (z : Fl (Nat × Nat × Nat)) : Fl (Nat × Nat × Nat) := match z with
  | Sum.inl yf => Sum.inl yf
  | Sum.inr r => if tkK T n r.1 = 38 ∧ ¬ tkK T n (tkN T n r.1) = 0 then Sum.inr (tkN T n r.1, r.2.1, r.2.2) else Sum.inl (wF T n 38 r.1)
theorem hE_z {x y : Fl ST} {z : Fl (Nat × Nat × Nat)} {nd : ST → Nat} {bb : ST → BT} (bz : Bem T n x z) (h : hb (some x) (fun t => hE T n t.1 (fun q3 => some (Sum.inr (q3, t.2.1, 0, nd t, bb t, t.2.2.2.2.2)))) = some y) : SemS T n y (lbZ T n z) := by
  rcases bz with ⟨yf, e1, e2⟩ | ⟨r, e1, e2⟩
  · rw [e1]
    rw [e2] at h
    exact Or.inl ⟨_, rfl, (Option.some.inj h).symm⟩
  · rw [e1]
    show SemS T n y (if tkK T n r.1 = 38 ∧ ¬ tkK T n (tkN T n r.1) = 0 then Sum.inr (tkN T n r.1, r.2.1, r.2.2) else Sum.inl (wF T n 38 r.1))
    rcases e2 with ⟨e3, e4⟩ | ⟨t, e3, e4, e5, e6⟩
    · rw [e3] at h
      rw [if_neg (fun z => e4 (by omega))]
      exact Or.inl ⟨_, rfl, (Option.some.inj h).symm.trans (by rw [wF_n (fun z => e4 (by omega))])⟩
    · rw [e3] at h
      have h' : hE T n t.1 (fun q3 => some (Sum.inr (q3, t.2.1, 0, nd t, bb t, t.2.2.2.2.2))) = some y := h
      unfold hE at h'
      rw [e4, e5] at h'
      rcases hW_any h' with ⟨w1, w2⟩ | ⟨w1, w2⟩
      · rw [if_neg w1]
        exact Or.inl ⟨_, rfl, w2⟩
      · rw [if_pos w1]
        exact Or.inr ⟨_, _, _, _, rfl, w2, e6⟩
/-- behind a loop's statements and its jump back -/
def LbR (T : Nat → Int32) (n : Nat) (b : Bool) (u al : Nat) (gl : Nat × (Nat → Nat → Prop)) (Pc : Nat → Nat → Prop) (Vm : Nat → Prop) (tb : List Ent) (o mk N q v w st P : Nat) (lo : Option Nat) (qh : Int32) (r : Nat × Nat × Nat) (τ : CS) : Prop := ∃ (cs bo : List Int32) (qb : List Nat) (nb : Nat), QS T n b u al tb o r.1 r.2.1 mk 0 (N + cs.length) τ ∧ (∀ i, i < cs.length → cdr b τ (N + i) = cs.getD i 0) ∧ ZF b u w r.2.2 lo qh τ ∧ Stm u gl Pc Vm w N (some P) (bdO (o + 1) v) nb qb bo ∧ (cs.length = bo.length + 1 ∧ (∀ i, i < bo.length → ¬ i ∈ qb → cs.getD i 0 = bo.getD i 0) ∧ (∀ h, h ∈ qb → cs.getD h 0 = em 3 (nI (bo.length + 1 - h))) ∧ cs.getD bo.length 0 = em 3 (nI P - nI (N + bo.length))) ∧ (2 * bo.length + 7 ≤ 7 * (r.1 - q) ∧ nb + st ≤ r.2.2) ∧ q < r.1 ∧ v ≤ r.2.1
theorem lb_0 (k d : Nat) (L : LV) (σ : CS) : f_F3 (k + 1) d 3 0 L σ = (of d (fun e1 => ox (f_F3 k e1 0 0 lZ (uI (uI σ 4008 ((L.1 1))) 4009 0)) (fun r1 => ox (f_X5_closes k 0 (lI lZ 1 38) r1.2.1) (fun r2 => oP (sPp r2.2.1) (fun b3 => oP (sPp r2.2.1) (fun b4 => ox (f_X7_emit__P k 0 (lI (lI (lB lZ 0 b4) 1 3) 2 0) r2.2.1) (fun r5 => op (y_X7_aim__P k 0 (lI (lI (lB lZ 0 b3) 1 r5.1.2) 2 ((L.1 1))) r5.2.1) (fun r6 => op (y_X5_aimAll k 0 (lI lZ 1 ((r6.2.1 4009))) r6.2) (fun r7 => f_F3 k d 3 1 (lI L 3 ((σ.1 4009))) (uI r7.2 4008 ((σ.1 4008)))))))))))) := rfl
theorem lb_1 (k d : Nat) (L : LV) (σ : CS) : f_F3 (k + 1) d 3 1 L σ = (some ((0, 0), (uI σ 4009 ((L.1 3))), (0, 0))) := rfl
theorem c_loopBody {z : Fl (Nat × Nat × Nat)} (blk : ∀ (σ' : CS) (L' : LV), QS T n b u al tb (o + 1) q v mk 0 N σ' → ZF b u w st (some P) 0 σ' → ZK b u tb.length N mk σ σ' → Tm (fun k => f_F3 k d 0 0 L' σ') (ZPo b u tb.length N mk z (fun r _ τ => BlR T n b u al gl Pc Vm tb (o + 1) mk N q v w st (some P) 0 r τ) σ' 0 0)) (h : QS T n b u al tb (o + 1) q v mk 0 N σ) (zf : ZF b u w st lo qh σ) (n10 : n ≤ 10240) (hN : 2 * N + 7 * (n - q) + 50 ≤ 73728) (hP : P < N) (l1 : L.1 1 = nI P) : Tm (fun k => f_F3 k (d + 1) 3 0 L σ) (ZPo b u tb.length N mk (lbZ T n z) (fun r _ τ => LbR T n b u al gl Pc Vm tb o mk N q v w st P lo qh r τ) σ 0 0) := by
  have s0 := Zy_0 h zf
  have fc := fP_c b 3
  have s1 : Zy T n b u al σ tb.length N mk 0 0 tb (o + 1) q v mk w st (some P) 0 N [] (uI (uI σ 4008 (L.1 1)) 4009 0) := Zy_g s0 (fun j hj => by rw [uI_o (by omega), uI_o (by omega)]) rfl (by rw [uI_o (by decide), uI_o (by decide)]; exact h.2.2.1.1) (Nat.le_refl _) (Nat.le_refl _) ⟨zf.1, ⟨by rw [uI_o (by omega), uI_o (by omega)]; exact zf.2.1.1, zf.2.1.2⟩, by rw [uI_o (by decide), uI_s]; exact l1, uI_s, zf.2.2.2.2⟩
  refine Tm_suc (fun k => lb_0 k _ _ _) ?_
  refine Tm_d ?_
  refine zt_callZ (C := True) s1 (blk _ _ s1.1.1 s1.2.2 s1.1.2.1) ?_
  cases z with
  | inl yf => exact Or.inl ⟨_, rfl, rfl⟩
  | inr r =>
    refine Or.inr ⟨r, rfl, trivial, fun τ2 ret2 n1 n2 hr zk2 hc2 => ?_⟩
    obtain ⟨bo, qb, nb, r1, r2, r3, r4, r5, ⟨r6, r6', r6''⟩, r7, r8⟩ := hr
    have r6'' : qb.length ≤ nb := r6''
    have s2 := Zy_ca s1 r1 zk2 hc2 r2 (Nat.le_refl _) (Nat.le_refl _) r3
    have s2' : Zy T n b u al σ tb.length N mk (0 + n1) (0 + n2) tb (o + 1) r.1 r.2.1 mk w r.2.2 (some P) (hdQ N 0 qb) N bo τ2 := s2
    have go2 := tk_go s2'.1.1
    have st4 := r3.2.1.2
    by_cases k38 : tkK T n r.1 = 38 ∧ ¬ tkK T n (tkN T n r.1) = 0
    case neg =>
      have e : lbZ T n (Sum.inr r) = Sum.inl (wF T n 38 r.1) := if_neg k38
      rw [e]
      exact zt_closes (kk := 38) (C := False) s2' (by decide) rfl (Or.inl ⟨k38, rfl⟩) (fun _ _ _ _ c _ _ => c.elim)
    have e : lbZ T n (Sum.inr r) = Sum.inr (tkN T n r.1, r.2.1, r.2.2) := if_pos k38
    rw [e]
    have g2 := go2.2.2 (by omega)
    refine zt_closes (kk := 38) (C := True) s2' (by decide) rfl (Or.inr ⟨k38, trivial⟩) (fun τ3 ret3 n3 n4 _ s3 xk3 => ?_)
    refine Tm_oP (Zy_pp s3) (Tm_oP (Zy_pp s3) ?_)
    refine zt_emit (op := 3) s3 rfl rfl (by omega) (fun τ4 n5 n6 s4 xk4 => ?_)
    have s4' : Zy T n b u al σ tb.length N mk (0 + n1 + n3 + n5) (0 + n2 + n4 + n6) tb o (tkN T n r.1) r.2.1 mk w r.2.2 (some P) (hdQ N 0 qb) N (bo ++ [em 3 0]) τ4 := s4
    have lb1 : (bo ++ [em 3 0]).length = bo.length + 1 := by rw [List.length_append]; rfl
    have gb1 : (bo ++ [em 3 0]).getD bo.length 0 = em 3 0 := by have z := gd_r (a := bo) (b := [em 3 0]) 0; rw [Nat.add_zero] at z; exact z
    refine Tm_op (c_aim (op := 3) (x := 0) (h := bo.length) (Sy_z s4') (Nat.le_refl _) (by rw [lb1]; omega) (by decide) gb1 rfl rfl) (fun r5' z5 => ?_)
    have z5' : Sy T n b u al τ4 tb.length N mk 0 0 tb o (tkN T n r.1) r.2.1 mk 0 N ((bo ++ [em 3 0]).set bo.length (em 3 (nI P - nI (N + bo.length)))) r5'.2 := by
      have e : em 3 ((lI (lI (lB lZ 0 b) 1 (nI (N + bo.length))) 2 (L.1 1)).1 2 - (lI (lI (lB lZ 0 b) 1 (nI (N + bo.length))) 2 (L.1 1)).1 1) = em 3 (nI P - nI (N + bo.length)) := by
        show em 3 (L.1 1 - nI (N + bo.length)) = _
        rw [l1]
      rw [← e]; exact z5
    have s5 := Zy_s s4' z5' (Nat.le_refl _)
    generalize hcb : (bo ++ [em 3 0]).set bo.length (em 3 (nI P - nI (N + bo.length))) = cb at *
    have lcb : cb.length = bo.length + 1 := by rw [← hcb, List.length_set, lb1]
    have gcb : ∀ i, i < bo.length → cb.getD i 0 = bo.getD i 0 := fun i hi => by
      rw [← hcb, gd_set, if_neg (by omega), gd_l hi]
    have gce : cb.getD bo.length 0 = em 3 (nI P - nI (N + bo.length)) := by
      rw [← hcb, gd_set, if_pos ⟨rfl, by rw [lb1]; omega⟩]
    have jc : JsC N cb qb := JsT_0 qb (JsT_o qb r5 (by omega) (fun i hi => gcb i (JsT_l qb r5 i hi)))
    have e9 : r5'.2.1 4009 = nI (jsH N qb) := by
      have z := s5.2.2.2.2.2.1
      rw [hdQ_0] at z
      exact z
    have t6 : Tm (fun k => y_X5_aimAll k 0 (lI lZ 1 (r5'.2.1 4009)) r5'.2) (fun r' => Sy T n b u al r5'.2 tb.length N mk 0 0 tb o (tkN T n r.1) r.2.1 mk 0 N (jsF cb qb) r'.2) := by
      refine Tm_suc (fun k => by rw [y_X5_aimAll]) ?_
      exact c_aimAll (cs := cb) (Nat.le_refl _) (by rw [lcb]; omega) qb 0 cb r5'.2 _ (by omega) (by rw [lcb]; omega) jc e9 rfl (Sy_z s5)
    refine Tm_op t6 (fun r7' z7 => ?_)
    have s7 := Zy_s s5 z7 (Nat.le_refl _)
    have lf := jsF_l qb cb
    have jg := jsF_g qb cb jc
    generalize jsF cb qb = cf at *
    have zf7 := s7.2.2
    refine Tm_suc (fun k => lb_1 k _ _ _) ?_
    have s8 : Zy T n b u al σ tb.length N mk (0 + n1 + n3 + n5 + 0 + 0) (0 + n2 + n4 + n6 + 0 + 0) tb o (tkN T n r.1) r.2.1 mk w r.2.2 lo qh N cf (uI (uI r7'.2 4008 (σ.1 4008)) 4009 (σ.1 4009)) := Zy_g s7 (fun j hj => by rw [uI_o (by omega), uI_o (by omega)]) rfl (by rw [uI_o (by decide), uI_o (by decide)]; exact s7.1.1.2.2.1.1) (Nat.le_refl _) (Nat.le_refl _) ⟨zf7.1, ⟨by rw [uI_o (by omega), uI_o (by omega)]; exact zf7.2.1.1, zf7.2.1.2⟩, by rw [uI_o (by decide), uI_s]; exact zf.2.2.1, by rw [uI_s]; exact zf.2.2.2.1, zf7.2.2.2.2⟩
    have ll' := JsT_l qb r5
    refine Tm_some (Zfin s8 ⟨cf, bo, qb, nb, s8.1.1, s8.2.1, s8.2.2, r4, ⟨by omega, fun i hi hn => ?_, fun i hi => ?_, ?_⟩, ⟨by show 2 * bo.length + 7 ≤ 7 * (tkN T n r.1 - q); omega, r6'⟩, by show q < tkN T n r.1; omega, r8⟩)
    · rw [(jg i).2 hn]; exact gcb i hi
    · rw [(jg i).1 hi, lcb]
    · rw [(jg bo.length).2 (fun y => by have := ll' _ y; omega)]; exact gce
end CXR
end JnS502
section JnS503
/-! The class: whiles are read. -/
section CXS
variable {σ σ' σ0 τ τ' τ0 : CS} {L : LV} {b : Bool} {T : Nat → Int32} {n q q' u al o v mk mk' p sz sz' szB szE nc nc0 sz0 mk0 a1 a2 m kk f e s0 ow a t0 g D w st w' st' M nm deep vv np lp N Bd ns k d P : Nat} {y qh qh' y0 y1 wd : Int32} {l l' cs cs' cs2 ll lt lt0 : List Int32} {tb : List Ent} {E : En} {gl : Nat × (Nat → Nat → Prop)} {Vm : Nat → Prop} {Pc : Nat → Nat → Prop} {MD : Nat → Nat → Nat} {md : Nat → Nat} {bt : BT} {ks qs qs' qa qb : List Nat} {lo lo' : Option Nat} {s : SB} {α : Type} {S : α → Int32 → CS → Prop} {x : Fl α} {C : Prop}
theorem ZK_w (h : ZK b u nc sz mk σ σ') (hs : sz' ≤ sz) : ZK b u nc sz' mk σ σ' := by
  obtain ⟨d1, d2, d3, d4, d5, d6, d7, ⟨d8, d8'⟩, d9⟩ := h
  exact ⟨d1, d2, d3, d4, d5, fun i hi => d6 i (by omega), d7, ⟨by omega, d8'⟩, d9⟩
theorem ZPo_w {r : RS} (h : ZPo b u nc0 sz mk0 x S σ0 a1 a2 r) (hs : sz' ≤ sz) : ZPo b u nc0 sz' mk0 x S σ0 a1 a2 r := ⟨h.1, h.2.1, h.2.2.1, h.2.2.2.1, ZK_w h.2.2.2.2 hs⟩
/-- behind a statement that began at N, its BEGIN with it -/
def S1W (T : Nat → Int32) (n : Nat) (b : Bool) (u al : Nat) (gl : Nat × (Nat → Nat → Prop)) (Pc : Nat → Nat → Prop) (Vm : Nat → Prop) (tb : List Ent) (o mk N q v w st : Nat) (lo : Option Nat) (qh : Int32) (Bd : Nat) (r : Nat × Nat × Nat) (τ : CS) : Prop := ∃ (cs : List Int32) (qs : List Nat) (ns : Nat), QS T n b u al tb o r.1 r.2.1 mk 0 (N + cs.length) τ ∧ (∀ i, i < cs.length → cdr b τ (N + i) = cs.getD i 0) ∧ ZF b u w r.2.2 lo (hdQ N qh qs) τ ∧ Stm u gl Pc Vm w N lo Bd ns qs cs ∧ JsT N cs qh qs ∧ (2 * cs.length ≤ 7 * (r.1 - q) + 2 ∧ ns + st ≤ r.2.2 + 1 ∧ qs.length ≤ lqN lo ns) ∧ q < r.1 ∧ v ≤ r.2.1
theorem S1W_of {r : Nat × Nat × Nat} (h : S1R T n b u al gl Pc Vm tb o mk N q v w st lo qh Bd 0 r τ) (hb : cdr b τ N = em 0 (nI q)) : S1W T n b u al gl Pc Vm tb o mk N q v w st lo qh Bd r τ := by
  obtain ⟨ll, qs, ns, h1, h2, h3, h4, h5, h6, h7, h8⟩ := h
  have el : (em 0 (nI q) :: ll).length = ll.length + 1 := rfl
  refine ⟨em 0 (nI q) :: ll, qs, ns, by rw [el, show N + (ll.length + 1) = N + 1 + ll.length by omega]; exact h1, fun i hi => ?_, h3, h4, h5, ⟨by rw [el]; omega, h6.2⟩, h7, h8⟩
  cases i with
  | zero => exact hb
  | succ i =>
    rw [el] at hi
    have z := h2 i (by omega)
    rw [show N + (i + 1) = N + 1 + i by omega]
    exact z
/-- a call within that may set the code laid since szB anew -/
theorem zt_callN {β : Type} {z : Fl β} {R : β → Int32 → CS → Prop} {g : Nat → Option RS} {f : Nat → RS → Option RS} (h : Zy T n b u al σ0 nc0 sz0 mk0 a1 a2 tb o q v mk w st lo qh szB cs τ) (h0 : sz0 ≤ szB) (t : Tm g (ZPo b u tb.length szB mk z R τ 0 0)) (hx : (∃ ye, z = Sum.inl ye ∧ x = Sum.inl ye) ∨ ∃ s, z = Sum.inr s ∧ C ∧ ∀ (τ' : CS) (ret : Int32) (n1 n2 : Nat), R s ret τ' → ZK b u nc0 sz0 mk0 σ0 τ' → (a1 + n1 + PhC τ' ≤ PhC σ0 ∧ a2 + n2 + PhS τ' ≤ PhS σ0) → Tm (fun k => f k ((0, ret), τ', (n1, n2))) (ZPo b u nc0 sz0 mk0 x S σ0 (a1 + n1) (a2 + n2))) : Tm (fun k => ox (g k) (f k)) (ZPo b u nc0 sz0 mk0 x S σ0 a1 a2) := by
  obtain ⟨⟨h1, h2, h3, h4, h5, h6⟩, _⟩ := h
  refine Tm_ox t (fun r w nz => ?_) (fun r w e0 => ?_)
  · rcases hx with ⟨y0, e1, e2⟩ | ⟨s, e1, _⟩
    · rw [e2]
      refine ⟨fun t' e => (by cases e), fun y1 ye => by cases ye; exact w.2.1 y0 e1, fun z => absurd z nz, fun z => ?_, ZK_t h2 w.2.2.2.2 h4 h0 h6⟩
      have y := w.2.2.2.1 z
      omega
    · exact absurd (w.1 s e1).1 nz
  · rcases hx with ⟨y0, e1, e2⟩ | ⟨s, e1, c, cont⟩
    · exact absurd (w.2.1 y0 e1).1 (by rw [e0]; decide)
    · have y := w.2.2.1 e0
      have k := cont r.2.1 r.1.2 r.2.2.1 r.2.2.2 (w.1 s e1).2 (ZK_t h2 w.2.2.2.2 h4 h0 h6) ⟨by omega, by omega⟩
      have er : ((0, r.1.2), r.2.1, (r.2.2.1, r.2.2.2)) = r := by
        rw [← e0]
      rw [er] at k
      exact Tm_mono k (fun q z => ZPo_s z)
/-- the state, seen from N on where a BEGIN lies -/
theorem Zy_N (h : QS T n b u al tb o q v mk 0 (N + 1) σ) (zf : ZF b u w st lo qh σ) (hb : cdr b σ N = y0) : Zy T n b u al σ tb.length N mk 0 0 tb o q v mk w st lo qh N [y0] σ := by
  have z := ZK_w (ZK_of (XK_r h)) (show N ≤ N + 1 by omega)
  refine ⟨⟨h, z, ⟨by omega, by omega⟩, Nat.le_refl _, by show N ≤ N + 1; omega, Nat.le_refl _⟩, fun i hi => ?_, zf⟩
  have : i = 0 := by have hi' : i < 1 := hi; omega
  subst this
  exact hb
theorem CxS_l (h : CxS n E b u al gl Vm Pc MD tb lp lo σ) (x : ZK b u nc sz mk σ τ) (hP : P < 100000) : CxS n E b u al gl Vm Pc MD tb (lp + 1) (some P) τ := ⟨StX_k h.1 x, h.2.1, h.2.2.1, ⟨fun z => by omega, fun z => by cases z⟩, fun p e => by cases e; exact hP⟩
theorem CxS_k (h : CxS n E b u al gl Vm Pc MD tb lp lo σ) (x : ZK b u nc sz mk σ τ) : CxS n E b u al gl Vm Pc MD tb lp lo τ := ⟨StX_k h.1 x, h.2⟩
/-- statements of one kind, read by the method m -/
def PSk (T : Nat → Int32) (n : Nat) (b : Bool) (u al : Nat) (MD : Nat → Nat → Nat) (f nt m : Nat) : Prop := ∀ (E : En) (lp o q v : Nat) (pe : Int32) (i l : Nat) (bt : BT) (s : SB) (y : Fl ST), q ≤ n → v ≤ 60 → s.1 ≤ 400 → 1 ≤ bt.1 → ¬ o = 20 → ¬ tkK T n q = 25 → GS T n MD f nt E lp o q v pe i l bt s = some y → ∃ z : Fl (Nat × Nat × Nat), SemS T n y z ∧ ∀ (d : Nat) (gl : Nat × (Nat → Nat → Prop)) (Pc : Nat → Nat → Prop) (Vm : Nat → Prop) (tb : List Ent) (mk N w : Nat) (lo : Option Nat) (qh : Int32) (σ : CS) (L : LV), QS T n b u al tb o q v mk 0 (N + 1) σ → ZF b u w s.1 lo qh σ → cdr b σ N = em 0 (nI q) → CxS n E b u al gl Vm Pc MD tb lp lo σ → BdB n o q v mk N w tb.length → 4 * (20 - o) ≤ d + 1 → (nt = 4 → L.1 1 = nI N) → Tm (fun k => f_F3 k d m 0 L σ) (ZPo b u tb.length N mk z (fun r _ τ => S1W T n b u al gl Pc Vm tb o mk N q v w s.1 lo qh (bdO o v) r τ) σ 0 0)
theorem g_mo0 {r : RT} (hq : q ≤ n) (hv : v ≤ 60) (hb : 1 ≤ bt.1) (h : G T n f 0 E o q v 0 0 0 0 bt = some (Sum.inr r)) : (q ≤ r.1 ∧ r.1 ≤ n) ∧ (v ≤ r.2.1 ∧ r.2.1 ≤ 60) ∧ bt.1 ≤ r.2.2.2.2.1.1 := by
  have z := (g_mono T n f 0 E o q v 0 0 0 0 bt r hq hv h 1 hb (Nat.le_refl _) trivial).1
  obtain ⟨a1, a2, a3, a4, a5, _⟩ := z
  exact ⟨⟨a1, a2⟩, ⟨a3, by omega⟩, a5⟩
theorem n_ss0 (a j : Nat) (h : a + j < 2147483648) : nI a - nI (a + j) = nI 0 - nI j := n_ss a 0 j (by omega) h
theorem wh_0 (k d : Nat) (L : LV) (σ : CS) : f_F3 (k + 1) d 5 0 L σ = (ox (f_X5_opens k 0 lZ σ) (fun r1 => ox (f_X5_exp k 0 (lI lZ 1 0) r1.2.1) (fun r2 => ox (f_X5_expect k 0 (lI lZ 1 44) r2.2.1) (fun r3 => oP (sPp r3.2.1) (fun b4 => ox (f_X7_emit__P k 0 (lI (lI (lB lZ 0 b4) 1 4) 2 0) r3.2.1) (fun r5 => of d (fun e6 => ox (f_F3 k e6 3 0 (lI lZ 1 ((L.1 1))) r5.2.1) (fun r6 => oP (sPp r6.2.1) (fun b7 => oP (sPp r6.2.1) (fun b8 => op (y_X7_aim__P k 0 (lI (lI (lB lZ 0 b7) 1 r5.1.2) 2 ((r6.2.1.1 (fP b8 1)))) r6.2.1) (fun r9 => some ((0, 0), r9.2, (0, 0))))))))))))) := rfl
theorem c_while (pb : PBk T n b u al MD f) : PSk T n b u al MD (f + 1) 4 5 := by
  intro E lp o q v pe i l bt s y hq hv hs hB1 ho h25 hG
  have hG' : hT T n q (fun q1 => lb (G T n f 0 E (o + 1) q1 v 0 0 0 0 (bNode bt 47 0 0 0)) (fun r => hW T n 44 r.1 (fun q2 => hb (GS T n MD f 0 E (lp + 1) (o + 1) q2 r.2.1 (nI bt.1) 0 0 (bSet r.2.2.2.2.1 5 bt.1 (nI r.2.2.2.1)) s) (fun t => hE T n t.1 (fun q3 => some (Sum.inr (q3, t.2.1, 0, bt.1, bSet t.2.2.2.2.1 6 bt.1 (hd t.2.2.2.1), t.2.2.2.2.2))))))) = some y := hG
  have tb1 := tkN_b T n q hq
  have g1 := tb1.2.2.2 h25
  rcases hT_any hG' with ⟨w1, w2⟩ | ⟨w1, w2⟩
  · refine ⟨Sum.inl (1, tkN T n q), Or.inl ⟨_, rfl, w2⟩, fun d gl Pc Vm tb mk N w lo qh σ L h zf hbg cx bd hd l1 => ?_⟩
    have s0 := Zy_N h zf hbg
    refine Tm_suc (fun k => wh_0 k _ _ _) ?_
    exact zt_opens (C := False) s0 (Or.inl ⟨fun z => z.2 w1, oF_b ho rfl⟩) (fun _ _ _ _ c _ _ => c.elim)
  -- the condition
  have cond : ∀ (d : Nat) (gl : Nat × (Nat → Nat → Prop)) (Pc : Nat → Nat → Prop) (Vm : Nat → Prop) (tb : List Ent) (mk N w : Nat) (lo : Option Nat) (qh : Int32) (σ : CS) (L : LV) (z0 : Fl RT) (zF : Fl (Nat × Nat × Nat)), G T n f 0 E (o + 1) (tkN T n q) v 0 0 0 0 (bNode bt 47 0 0 0) = some z0 → QS T n b u al tb o q v mk 0 (N + 1) σ → ZF b u w s.1 lo qh σ → cdr b σ N = em 0 (nI q) → CxS n E b u al gl Vm Pc MD tb lp lo σ → BdB n o q v mk N w tb.length → (∀ ye, z0 = Sum.inl ye → zF = Sum.inl ye) → (∀ (r : RT), z0 = Sum.inr r → ∀ (τ : CS) (n1 n2 : Nat) (co : List Int32), Zy T n b u al σ tb.length N mk n1 n2 tb (o + 1) r.1 r.2.1 mk w s.1 lo qh N ([em 0 (nI q)] ++ co) τ → Sgm u 0 gl Vm 1 co → 2 * co.length ≤ 3 * (r.1 - tkN T n q) + 1 → tkN T n q < r.1 → v ≤ r.2.1 → Tm (fun k => ox (f_X5_expect k 0 (lI lZ 1 44) τ) (fun r3 => oP (sPp r3.2.1) (fun b4 => ox (f_X7_emit__P k 0 (lI (lI (lB lZ 0 b4) 1 4) 2 0) r3.2.1) (fun r5 => of d (fun e6 => ox (f_F3 k e6 3 0 (lI lZ 1 ((L.1 1))) r5.2.1) (fun r6 => oP (sPp r6.2.1) (fun b7 => oP (sPp r6.2.1) (fun b8 => op (y_X7_aim__P k 0 (lI (lI (lB lZ 0 b7) 1 r5.1.2) 2 ((r6.2.1.1 (fP b8 1)))) r6.2.1) (fun r9 => some ((0, 0), r9.2, (0, 0)))))))))) ) (ZPo b u tb.length N mk zF (fun r _ τ => S1W T n b u al gl Pc Vm tb o mk N q v w s.1 lo qh (bdO o v) r τ) σ n1 n2)) → Tm (fun k => f_F3 k d 5 0 L σ) (ZPo b u tb.length N mk zF (fun r _ τ => S1W T n b u al gl Pc Vm tb o mk N q v w s.1 lo qh (bdO o v) r τ) σ 0 0) := by
    intro d gl Pc Vm tb mk N w lo qh σ L z0 zF hz h zf hbg cx bd hn hs'
    have s0 := Zy_N h zf hbg
    obtain ⟨bd1, bd2, bd3, bd4⟩ := bd
    have n10 := cx.1.2.2.2.2
    refine Tm_suc (fun k => wh_0 k _ _ _) ?_
    refine zt_opens (C := True) s0 (Or.inr ⟨⟨ho, w1⟩, trivial⟩) (fun τ1 ret1 n1 n2 _ s1 xk1 => ?_)
    have bdx : BdX n (o + 1) (tkN T n q) v mk 0 (N + [em 0 (nI q)].length) tb.length := ⟨n10, by show 2 * (N + 1) + _ + _ ≤ _; omega, by omega, bd3, by omega⟩
    cases z0 with
    | inl yf =>
      rw [hn _ rfl]
      exact zt_exp (C := True) s1 (EvX_z cx.1.1 s1.1.2.1) bdx rfl hz (Or.inl ⟨_, rfl, rfl⟩) (fun _ _ _ _ _ _ z => by cases z)
    | inr r =>
      refine zt_exp (C := True) s1 (EvX_z cx.1.1 s1.1.2.1) bdx rfl hz (Or.inr ⟨r, rfl, trivial⟩) (fun τ2 ret2 n3 n4 r' co hzz _ s2 xk2 sg ln lt lv tg => ?_)
      cases hzz
      exact hs' r rfl τ2 _ _ co s2 sg ln lt lv
  rcases lb_any w2 with ⟨yf, w3, w4⟩ | ⟨r, w3, w4⟩
  · exact ⟨Sum.inl yf, Or.inl ⟨_, rfl, w4⟩, fun d gl Pc Vm tb mk N w lo qh σ L h zf hbg cx bd hd l1 => cond d gl Pc Vm tb mk N w lo qh σ L (Sum.inl yf) (Sum.inl yf) w3 h zf hbg cx bd (fun _ e => by cases e; rfl) (fun r e => by cases e)⟩
  have mo := g_mo0 (bt := bNode bt 47 0 0 0) tb1.2.1 hv (by rw [bNode_1]; omega) w3
  rcases hW_any w4 with ⟨w5, w6⟩ | ⟨w5, w6⟩
  · refine ⟨Sum.inl (wF T n 44 r.1), Or.inl ⟨_, rfl, w6⟩, fun d gl Pc Vm tb mk N w lo qh σ L h zf hbg cx bd hd l1 => cond d gl Pc Vm tb mk N w lo qh σ L (Sum.inr r) (Sum.inl (wF T n 44 r.1)) w3 h zf hbg cx bd (fun _ e => by cases e) (fun r' e τ n1 n2 co s2 sg ln lt lv => ?_)⟩
    cases e
    exact zt_expect (kk := 44) (C := False) s2 (by decide) rfl (Or.inl ⟨w5, rfl⟩) (fun _ _ _ _ c _ _ => c.elim)
  have tb2 := tkN_b T n r.1 mo.1.2
  have g2 := tb2.2.2.2 (by omega)
  have gz : ∃ x, GS T n MD f 0 E (lp + 1) (o + 1) (tkN T n r.1) r.2.1 (nI bt.1) 0 0 (bSet r.2.2.2.2.1 5 bt.1 (nI r.2.2.2.1)) s = some x := by
    rcases hb_any w6 with ⟨yf, y1, _⟩ | ⟨_, y1, _⟩
    · exact ⟨_, y1⟩
    · exact ⟨_, y1⟩
  obtain ⟨x, hx⟩ := gz
  rw [hx] at w6
  have b1 : 1 ≤ (bSet r.2.2.2.2.1 5 bt.1 (nI r.2.2.2.1)).1 := by
    have z := mo.2.2
    rw [bNode_1] at z
    show 1 ≤ r.2.2.2.2.1.1
    omega
  obtain ⟨z, bz, run⟩ := pb E (lp + 1) (o + 1) (tkN T n r.1) r.2.1 (nI bt.1) 0 0 _ s x tb2.2.1 mo.2.1.2 hs b1 hx
  refine ⟨lbZ T n z, hE_z bz w6, fun d gl Pc Vm tb mk N w lo qh σ L h zf hbg cx bd hd l1 => cond d gl Pc Vm tb mk N w lo qh σ L (Sum.inr r) _ w3 h zf hbg cx bd (fun _ e => by cases e) (fun r' e τ n1 n2 co s2 sg ln lt lv => ?_)⟩
  cases e
  obtain ⟨bd1, bd2, bd3, bd4⟩ := bd
  have n10 := cx.1.2.2.2.2
  have o20 := h.2.2.2.2.2.1.2
  have lco : ([em 0 (nI q)] ++ co).length = co.length + 1 := by rw [List.length_append]; show 1 + co.length = _; omega
  refine zt_expect (kk := 44) (C := True) s2 (by decide) rfl (Or.inr ⟨w5, trivial⟩) (fun τ3 ret3 n3 n4 _ s3 xk3 => ?_)
  refine Tm_oP (Zy_pp s3) ?_
  refine zt_emit (op := 4) s3 rfl rfl (by rw [lco]; omega) (fun τ4 n5 n6 s4 xk4 => ?_)
  have s4' : Zy T n b u al σ tb.length N mk (n1 + n3 + n5) (n2 + n4 + n6) tb (o + 1) (tkN T n r.1) r.2.1 mk w s.1 lo qh N ([em 0 (nI q)] ++ co ++ [em 4 0]) τ4 := s4
  have l4 : ([em 0 (nI q)] ++ co ++ [em 4 0]).length = co.length + 2 := by rw [List.length_append, lco]; rfl
  obtain ⟨d1, hd1⟩ : ∃ d1, d = d1 + 2 := ⟨d - 2, by omega⟩
  subst hd1
  refine Tm_d ?_
  have bdb : BdB n (o + 1) (tkN T n r.1) r.2.1 mk (N + (co.length + 2)) w tb.length := ⟨by omega, by omega, by omega, by omega⟩
  have qs4 : QS T n b u al tb (o + 1) (tkN T n r.1) r.2.1 mk 0 (N + (co.length + 2)) τ4 := by have z := s4'.1.1; rw [l4] at z; exact z
  refine zt_callZ (C := True) s4' (by rw [l4]; exact c_loopBody (gl := gl) (Pc := Pc) (Vm := Vm) (P := N) (z := z) (fun σ' L' hq' zf' zk' => run d1 gl Pc Vm tb mk (N + (co.length + 2)) w (some N) 0 σ' L' hq' zf' (CxS_l (CxS_k cx s4'.1.2.1) zk' (by omega)) bdb (by omega)) qs4 s4'.2.2 n10 (by omega) (by omega) (l1 rfl)) ?_
  cases hz : lbZ T n z with
  | inl yf => exact Or.inl ⟨_, rfl, rfl⟩
  | inr t =>
    refine Or.inr ⟨t, rfl, trivial, fun τ5 ret5 n7 n8 hr zk5 hc5 => ?_⟩
    obtain ⟨cl, bo, qb, nb, r1, r2, r3, r4, ⟨r5, r6, r7, r8⟩, ⟨r9, r9'⟩, ra, rb⟩ := hr
    have s5 := Zy_ca (ll := cl) s4' (by rw [l4]; exact r1) zk5 hc5 (by rw [l4]; exact r2) (Nat.le_refl _) (Nat.le_refl _) r3
    have l5 : ([em 0 (nI q)] ++ co ++ [em 4 0] ++ cl).length = co.length + bo.length + 3 := by rw [List.length_append, l4]; omega
    have go5 := tk_go s5.1.1
    refine Tm_oP (Zy_pp s5) (Tm_oP (Zy_pp s5) ?_)
    have e5 : τ5.1 (fP b 1) = nI (N + (co.length + bo.length + 3)) := by have z := s5.1.1.2.1.1; rw [l5] at z; exact z
    have gc : ([em 0 (nI q)] ++ co ++ [em 4 0] ++ cl).getD (co.length + 1) 0 = em 4 0 := by
      have e1 : [em 0 (nI q)] ++ co ++ [em 4 0] ++ cl = ([em 0 (nI q)] ++ co) ++ (em 4 0 :: cl) := by simp only [List.append_assoc]; rfl
      have z := gd_r (a := [em 0 (nI q)] ++ co) (b := em 4 0 :: cl) 0
      rw [lco] at z
      rw [e1]; exact z
    have e4 : nI (N + ([em 0 (nI q)] ++ co).length) = nI (N + (co.length + 1)) := by rw [lco]
    refine Tm_op (c_aim (op := 4) (x := 0) (h := co.length + 1) (Sy_z s5) (Nat.le_refl _) (by rw [l5]; omega) (by decide) gc rfl e4) (fun r9x z9 => ?_)
    have s6 := Zy_s s5 z9 (Nat.le_refl _)
    have ew : (lI (lI (lB lZ 0 b) 1 (nI (N + ([em 0 (nI q)] ++ co).length))) 2 (τ5.1 (fP b 1))).1 2 - (lI (lI (lB lZ 0 b) 1 (nI (N + ([em 0 (nI q)] ++ co).length))) 2 (τ5.1 (fP b 1))).1 1 = nI (bo.length + 2) := by
      show τ5.1 (fP b 1) - nI (N + ([em 0 (nI q)] ++ co).length) = _
      rw [e5, e4, n_sub (by omega) (by omega)]
      exact congrArg nI (by omega)
    have s6' : Zy T n b u al σ tb.length N mk (n1 + n3 + n5 + n7 + 0) (n2 + n4 + n6 + n8 + 0) tb o t.1 t.2.1 mk w t.2.2 lo qh N (([em 0 (nI q)] ++ co ++ [em 4 0] ++ cl).set (co.length + 1) (em 4 (nI (bo.length + 2)))) r9x.2 := by
      rw [← ew]; exact s6
    generalize hcs : ([em 0 (nI q)] ++ co ++ [em 4 0] ++ cl).set (co.length + 1) (em 4 (nI (bo.length + 2))) = cs at *
    have lcs : cs.length = co.length + bo.length + 3 := by rw [← hcs, List.length_set, l5]
    have gi : ∀ i, ¬ i = co.length + 1 → cs.getD i 0 = ([em 0 (nI q)] ++ co ++ [em 4 0] ++ cl).getD i 0 := fun i hi => by rw [← hcs, gd_set, if_neg (fun z => hi z.1)]
    have gcl : ∀ i, cs.getD (co.length + 2 + i) 0 = cl.getD i 0 := fun i => by
      rw [gi _ (by omega)]
      have z := gd_r (a := [em 0 (nI q)] ++ co ++ [em 4 0]) (b := cl) i
      rw [l4] at z
      exact z
    have hbo : bdO (o + 1) r.2.1 + 1 ≤ bdO o v := by unfold bdO; omega
    have ty : Stm u gl Pc Vm w N lo (bdO o v) (nb + 1) [] cs := by
      refine Stm_wh (pl := q) (co := co) (bo := bo) (qb := qb) (nb := nb) sg r4 hbo (by omega) lcs ?_ (fun i hi => ?_) ?_ (fun i hi hn => ?_) (fun i hi => ?_) ?_
      · rw [gi _ (by omega)]; rfl
      · rw [gi _ (by omega)]
        have e1 : [em 0 (nI q)] ++ co ++ [em 4 0] ++ cl = [em 0 (nI q)] ++ (co ++ ([em 4 0] ++ cl)) := by simp only [List.append_assoc]
        have z := gd_r (a := [em 0 (nI q)]) (b := co ++ ([em 4 0] ++ cl)) i
        rw [e1]
        exact z.trans (gd_l hi)
      · rw [← hcs, gd_set, if_pos ⟨rfl, by rw [l5]; omega⟩]
      · rw [gcl]; exact r6 i hi hn
      · rw [gcl]; exact r7 i hi
      · rw [gcl, r8, show N + (co.length + 2) + bo.length = N + (co.length + bo.length + 2) by omega, n_ss0 _ _ (by omega)]
    refine Tm_some (Zfin s6' ⟨cs, [], nb + 1, s6'.1.1, s6'.2.1, s6'.2.2, ty, trivial, ⟨by rw [lcs]; omega, by omega, Nat.zero_le _⟩, by omega, by omega⟩)
end CXS
end JnS503
section JnS504
/-! The class: ifs, as they are laid. -/
section CXT
variable {σ σ' σ0 τ τ' τ0 : CS} {L : LV} {b : Bool} {T : Nat → Int32} {n q q' u al o v mk mk' p sz sz' szB szE nc nc0 sz0 mk0 a1 a2 m kk f e s0 ow a t0 g D w st w' st' M nm deep vv np lp N Bd ns nb k d P h : Nat} {y qh qh' y0 y1 wd x0 : Int32} {l l' cs cs' cs2 ll lt lt0 co bo : List Int32} {tb : List Ent} {E : En} {gl : Nat × (Nat → Nat → Prop)} {Vm : Nat → Prop} {Pc : Nat → Nat → Prop} {MD : Nat → Nat → Nat} {md : Nat → Nat} {bt : BT} {ks qs qs' qa qb js es qsI : List Nat} {lo lo' : Option Nat} {s : SB}
theorem set_l {x : Int32} : ∀ (a b : List Int32) (h : Nat), h < a.length → (a ++ b).set h x = a.set h x ++ b
  | [], _, _, hh => absurd hh (Nat.not_lt_zero _)
  | _ :: _, _, 0, _ => rfl
  | y :: a, b, h + 1, hh => congrArg (fun l => y :: l) (set_l a b h (Nat.lt_of_succ_lt_succ hh))
theorem JsC_o : ∀ js : List Nat, JsC szB cs js → cs.length ≤ cs2.length → (∀ i, i ∈ js → cs2.getD i 0 = cs.getD i 0) → JsC szB cs2 js
  | [], _, _, _ => trivial
  | j :: js, z, hl, he => ⟨Nat.lt_of_lt_of_le z.1 hl, z.2.1, by rw [he j List.mem_cons_self]; exact z.2.2.1, z.2.2.2.1, JsC_o js z.2.2.2.2 hl (fun i hi => he i (List.mem_cons_of_mem _ hi))⟩
theorem JsC_l : ∀ js : List Nat, JsC szB cs js → ∀ h, h ∈ js → h < cs.length
  | [], _, h, hh => absurd hh List.not_mem_nil
  | j :: js, z, h, hh => by
    rcases List.mem_cons.1 hh with y | y
    · rw [y]; exact z.1
    · exact JsC_l js z.2.2.2.2 h y
theorem shQ_l {k : Nat} : (shQ k qs).length = qs.length := List.length_map _
/-- an if as it stands: what waits for its end, for its next branch, what quits -/
def IfX (u : Nat) (gl : Nat × (Nat → Nat → Prop)) (Pc : Nat → Nat → Prop) (Vm : Nat → Prop) (w N : Nat) (lo : Option Nat) (qh : Int32) (Bd ns : Nat) (js es : List Nat) (ow : Option Nat) (cs : List Int32) : Prop := (∃ qsI : List Nat, IfK u gl Pc Vm w N lo Bd ns qsI es ow cs ∧ ∀ i, i ∈ js ↔ i ∈ qsI) ∧ JsC N cs es ∧ JsT N cs qh js ∧ (∀ h, ow = some h → cs.getD h 0 = em 4 0) ∧ js.length ≤ lqN lo ns
/-- if .. then .. -/
theorem IfX_0 (hc : Sst u gl Pc Vm [] 0 0 1 co) (hb : Stm u gl Pc Vm w (N + (co.length + 2)) lo Bd nb qb bo) (jb : JsT (N + (co.length + 2)) bo qh qb) (hl : qb.length ≤ lqN lo nb) (hp : q < 8388608) : IfX u gl Pc Vm w N lo qh Bd (nb + 1) (shQ (co.length + 2) qb) [] (some (co.length + 1)) (em 0 (nI q) :: (co ++ (em 4 0 :: bo))) ∧ hdQ N qh (shQ (co.length + 2) qb) = hdQ (N + (co.length + 2)) qh qb := by
  have la : ([em 0 (nI q)] ++ (co ++ [em 4 0])).length = co.length + 2 := by rw [List.length_append, List.length_append]; show 1 + (co.length + 1) = _; omega
  have ea : em 0 (nI q) :: (co ++ (em 4 0 :: bo)) = ([em 0 (nI q)] ++ (co ++ [em 4 0])) ++ bo := by simp only [List.append_assoc]; rfl
  have z := JsT_s (cs := [em 0 (nI q)] ++ (co ++ [em 4 0])) (cs2 := bo) (szB := N) (y0 := qh) qb [] trivial (by rw [la]; exact jb)
  rw [la, List.append_nil] at z
  refine ⟨⟨⟨_, IfK_0 hc hb hp, fun i => Iff.rfl⟩, trivial, by rw [ea]; exact z.1, fun h e => ?_, by rw [shQ_l]; exact Nat.le_trans hl (lqN_m (Nat.le_succ _))⟩, z.2⟩
  cases e
  have y := gd_r (a := em 0 (nI q) :: co) (b := em 4 0 :: bo) 0
  exact y
theorem IfX_go (k : IfX u gl Pc Vm w N lo qh Bd ns js es (some h) cs) (y1 : Int32) (rest : List Int32) : (h < cs.length ∧ ¬ h ∈ es ∧ ¬ h ∈ js) ∧ JsC N (cs.set h y1 ++ rest) es ∧ JsT N (cs.set h y1 ++ rest) qh js := by
  obtain ⟨⟨qsI, kk, hm⟩, jc, jt, g4, jl⟩ := k
  obtain ⟨⟨k1, k2, k3, k4⟩, _⟩ := kk
  have kh := k4 h rfl
  have hh : h < cs.length := k1 h (Or.inr rfl)
  have nj : ¬ h ∈ js := fun z => kh.1 ((hm h).1 z)
  have ls : (cs.set h y1).length = cs.length := List.length_set
  have ge : ∀ i, i < cs.length → ¬ i = h → (cs.set h y1 ++ rest).getD i 0 = cs.getD i 0 := fun i hi hn => by
    rw [gd_l (by rw [ls]; exact hi), gd_set, if_neg (fun z => hn z.1)]
  refine ⟨⟨hh, kh.2, nj⟩, JsC_o es jc (by rw [List.length_append, ls]; omega) (fun i hi => ge i (JsC_l es jc i hi) (fun z => kh.2 (z ▸ hi))), JsT_o js jt (by rw [List.length_append, ls]; omega) (fun i hi => ge i (JsT_l js jt i hi) (fun z => nj (z ▸ hi)))⟩
/-- elseif .. then .. -/
theorem IfX_e (k : IfX u gl Pc Vm w N lo qh Bd ns js es (some h) cs) (hc : Sst u gl Pc Vm [] 0 0 1 co) (hb : Stm u gl Pc Vm w (N + (cs.length + 1 + (co.length + 1))) lo Bd nb qb bo) (jb : JsT (N + (cs.length + 1 + (co.length + 1))) bo (hdQ N qh js) qb) (hl : qb.length ≤ lqN lo nb) : IfX u gl Pc Vm w N lo qh Bd (ns + nb) (shQ (cs.length + 1 + (co.length + 1)) qb ++ js) (cs.length :: es) (some (cs.length + 1 + co.length)) (cs.set h (em 4 (nI (cs.length + 1 - h))) ++ (em 3 (nI (jsH N es)) :: (co ++ (em 4 0 :: bo)))) ∧ hdQ N qh (shQ (cs.length + 1 + (co.length + 1)) qb ++ js) = hdQ (N + (cs.length + 1 + (co.length + 1))) (hdQ N qh js) qb := by
  obtain ⟨⟨hh, hne, hnj⟩, jc1, jt1⟩ := IfX_go k (em 4 (nI (cs.length + 1 - h))) (em 3 (nI (jsH N es)) :: (co ++ [em 4 0]))
  obtain ⟨⟨qsI, kk, hm⟩, jc, jt, g4, jl⟩ := k
  have ls : (cs.set h (em 4 (nI (cs.length + 1 - h)))).length = cs.length := List.length_set
  have la : (cs.set h (em 4 (nI (cs.length + 1 - h))) ++ (em 3 (nI (jsH N es)) :: (co ++ [em 4 0]))).length = cs.length + 1 + (co.length + 1) := by rw [List.length_append, ls, List.length_cons, List.length_append]; show cs.length + (co.length + 1 + 1) = _; omega
  have ea : cs.set h (em 4 (nI (cs.length + 1 - h))) ++ (em 3 (nI (jsH N es)) :: (co ++ (em 4 0 :: bo))) = (cs.set h (em 4 (nI (cs.length + 1 - h))) ++ (em 3 (nI (jsH N es)) :: (co ++ [em 4 0]))) ++ bo := by simp only [List.append_assoc, List.cons_append]; rfl
  have z := JsT_s (cs2 := bo) (szB := N) (y0 := qh) qb js jt1 (by rw [la]; exact jb)
  rw [la] at z
  generalize hA : cs.set h (em 4 (nI (cs.length + 1 - h))) ++ (em 3 (nI (jsH N es)) :: (co ++ [em 4 0])) = A at *
  have gA : A.getD cs.length 0 = em 3 (nI (jsH N es)) := by
    have y := gd_r (a := cs.set h (em 4 (nI (cs.length + 1 - h)))) (b := em 3 (nI (jsH N es)) :: (co ++ [em 4 0])) 0
    rw [ls, hA] at y
    exact y
  have ke := IfK_e (y1 := em 3 (nI (jsH N es))) (y0 := em 4 0) kk hc hb
  rw [ea] at ke ⊢
  have jl2 := JsC_l es jc
  refine ⟨⟨⟨_, ke, fun i => ?_⟩, ⟨by rw [List.length_append, la]; omega, ?_, ?_, fun i hi => by have := jl2 i hi; omega, JsC_o es jc1 (by rw [List.length_append]; omega) (fun i hi => gd_l (by have := jl2 i hi; rw [la]; omega))⟩, z.1, fun h' e => ?_, by rw [List.length_append, shQ_l, Nat.add_comm qb.length]; exact lqN_a jl hl⟩, z.2⟩
  · rw [List.mem_append, List.mem_append, hm i]
    exact ⟨fun z => z.symm, fun z => z.symm⟩
  · show 1 ≤ N + cs.length
    omega
  · rw [gd_l (by rw [la]; omega)]; exact gA
  · cases e
    rw [← ea]
    have e2 : cs.set h (em 4 (nI (cs.length + 1 - h))) ++ (em 3 (nI (jsH N es)) :: (co ++ (em 4 0 :: bo))) = (cs.set h (em 4 (nI (cs.length + 1 - h))) ++ (em 3 (nI (jsH N es)) :: co)) ++ (em 4 0 :: bo) := by simp only [List.append_assoc, List.cons_append]
    have l2 : (cs.set h (em 4 (nI (cs.length + 1 - h))) ++ (em 3 (nI (jsH N es)) :: co)).length = cs.length + 1 + co.length := by rw [List.length_append, ls, List.length_cons]; omega
    have y := gd_r (a := cs.set h (em 4 (nI (cs.length + 1 - h))) ++ (em 3 (nI (jsH N es)) :: co)) (b := em 4 0 :: bo) 0
    rw [l2] at y
    rw [e2]; exact y
/-- else .. -/
theorem IfX_l (k : IfX u gl Pc Vm w N lo qh Bd ns js es (some h) cs) (hb : Stm u gl Pc Vm w (N + (cs.length + 1)) lo Bd nb qb bo) (jb : JsT (N + (cs.length + 1)) bo (hdQ N qh js) qb) (hl : qb.length ≤ lqN lo nb) : IfX u gl Pc Vm w N lo qh Bd (ns + nb) (shQ (cs.length + 1) qb ++ js) (cs.length :: es) none (cs.set h (em 4 (nI (cs.length + 1 - h))) ++ (em 3 (nI (jsH N es)) :: bo)) ∧ hdQ N qh (shQ (cs.length + 1) qb ++ js) = hdQ (N + (cs.length + 1)) (hdQ N qh js) qb := by
  obtain ⟨⟨hh, hne, hnj⟩, jc1, jt1⟩ := IfX_go k (em 4 (nI (cs.length + 1 - h))) [em 3 (nI (jsH N es))]
  obtain ⟨⟨qsI, kk, hm⟩, jc, jt, g4, jl⟩ := k
  have ls : (cs.set h (em 4 (nI (cs.length + 1 - h)))).length = cs.length := List.length_set
  have la : (cs.set h (em 4 (nI (cs.length + 1 - h))) ++ [em 3 (nI (jsH N es))]).length = cs.length + 1 := by rw [List.length_append, ls]; rfl
  have ea : cs.set h (em 4 (nI (cs.length + 1 - h))) ++ (em 3 (nI (jsH N es)) :: bo) = (cs.set h (em 4 (nI (cs.length + 1 - h))) ++ [em 3 (nI (jsH N es))]) ++ bo := by simp only [List.append_assoc]; rfl
  have z := JsT_s (cs2 := bo) (szB := N) (y0 := qh) qb js jt1 (by rw [la]; exact jb)
  rw [la] at z
  generalize hA : cs.set h (em 4 (nI (cs.length + 1 - h))) ++ [em 3 (nI (jsH N es))] = A at *
  have gA : A.getD cs.length 0 = em 3 (nI (jsH N es)) := by
    have y := gd_r (a := cs.set h (em 4 (nI (cs.length + 1 - h)))) (b := [em 3 (nI (jsH N es))]) 0
    rw [ls, hA] at y
    exact y
  have ke := IfK_l (y1 := em 3 (nI (jsH N es))) kk hb
  rw [ea] at ke ⊢
  have jl2 := JsC_l es jc
  refine ⟨⟨⟨_, ke, fun i => ?_⟩, ⟨by rw [List.length_append, la]; omega, ?_, ?_, fun i hi => by have := jl2 i hi; omega, JsC_o es jc1 (by rw [List.length_append]; omega) (fun i hi => gd_l (by have := jl2 i hi; rw [la]; omega))⟩, z.1, fun h' e => (by cases e), by rw [List.length_append, shQ_l, Nat.add_comm qb.length]; exact lqN_a jl hl⟩, z.2⟩
  · rw [List.mem_append, List.mem_append, hm i]
    exact ⟨fun z => z.symm, fun z => z.symm⟩
  · show 1 ≤ N + cs.length
    omega
  · rw [gd_l (by rw [la]; omega)]; exact gA
/-- end: what waits for the next branch has come to the end already -/
theorem IfX_end {ow : Option Nat} (k : IfX u gl Pc Vm w N lo qh Bd ns js es ow cs) (l : cs2.length = cs.length) (g1 : ∀ i, i < cs.length → ¬ i ∈ es → ¬ ow = some i → cs2.getD i 0 = cs.getD i 0) (g2 : ∀ i, i ∈ es → cs2.getD i 0 = em 3 (nI (cs.length - i))) (g3 : ∀ i, ow = some i → cs2.getD i 0 = em 4 (nI (cs.length - i))) : Stm u gl Pc Vm w N lo (Bd + 1) ns js cs2 ∧ JsT N cs2 qh js := by
  obtain ⟨⟨qsI, kk, hm⟩, jc, jt, g4, jl⟩ := k
  have kk0 := kk
  obtain ⟨⟨k1, k2, k3, k4⟩, _⟩ := kk
  have st := IfK_end kk0 l (fun i hi hn => g1 i hi (fun z => hn (Or.inl (Or.inr z))) (fun z => hn (Or.inr z))) g2 g3
  have jt2 : JsT N cs2 qh js := JsT_o js jt (by omega) (fun i hi => g1 i (JsT_l js jt i hi) (k3 i ((hm i).1 hi)) (fun z => (k4 i z).1 ((hm i).1 hi)))
  exact ⟨Stm_q st hm (JsT_p js jt), jt2⟩
end CXT
end JnS504
