/-! The class: statements that begin with a name are read. -/
section CXN
variable {σ σ' σ0 τ τ' τ0 : CS} {L : LV} {b : Bool} {T : Nat → Int32} {n q q' u al o v mk mk' p sz szB szE nc nc0 sz0 mk0 a1 a2 m kk f e s ow a t0 g D op w st w' st' M nm deep vv np : Nat} {y qh qh' : Int32} {l l' cs cs' ll lt lt0 : List Int32} {tb : List Ent} {E : En} {gl : Nat × (Nat → Nat → Prop)} {Vm : Nat → Prop} {Pc : Nat → Nat → Prop} {MD : Nat → Nat → Nat} {md : Nat → Nat} {bt : BT} {ks : List Nat} {lo lo' : Option Nat}
/-- behind the target of a statement -/
def TgS (T : Nat → Int32) (n : Nat) (b : Bool) (u al : Nat) (gl : Nat × (Nat → Nat → Prop)) (Vm : Nat → Prop) (σ : CS) (a1 a2 : Nat) (tb : List Ent) (o q v mk w st : Nat) (lo : Option Nat) (qh : Int32) (sz s ow : Nat) (ks : List Nat) (cs : List Int32) (r : RT) (τ : CS) : Prop := Zy T n b u al σ tb.length sz mk a1 a2 tb o r.1 r.2.1 (mk + 4 + ks.length) w st lo qh sz cs τ ∧ TgV u gl Vm s ow ∧ TgM τ mk s ow ks ∧ kOK ks ∧ Sgm u 0 gl Vm (wdN ks) cs ∧ 2 * cs.length + 2 * ks.length + 3 ≤ 3 * (r.1 - q) ∧ q < r.1 ∧ v ≤ r.2.1 ∧ r.2.2.1 = (if ks.length = 0 then 1 else 2)
/-- := .. -/
theorem c_nmAs {r : RT} {x : Option RT} (ts : TgS T n b u al gl Vm σ a1 a2 tb o q v mk w st lo qh sz s ow ks cs r τ) (sx : StX n E b u al gl Vm Pc MD tb σ) (bd : BdS n o q v mk sz tb.length) (l4 : L.1 4 = nI sz) (l5 : L.1 5 = nI mk) (k1 : tkK T n r.1 = 1) (hG : gT T n r.1 (fun q1 => gAs0 T n f MD E o r.2.2.1 q1 r.2.1 r.2.2.2.2.1) = some x) : Tm (fun k => f_X5_nameStatement k 6 L τ) (ZPo b u tb.length sz mk (zq x) (fun r _ τ => SzR T n b u al gl Pc Vm tb o mk sz q v w st lo qh r τ) σ a1 a2) := by
  obtain ⟨s1, tv, tm, ko, sg, ln, lq, lv, ri⟩ := ts
  obtain ⟨bd1, bd2, bd3⟩ := bd
  have sx0 := sx
  obtain ⟨ev, pr, pe, n3, n10⟩ := sx
  have go := tk_go s1.1.1
  have g1 := go.2.2 (by omega)
  have wb := wdN_b ks
  have u42 := ev.2.2.1.2
  have gl1 := ev.1.1
  have v60 := s1.1.1.2.2.2.2.2.2.1.2
  have o20 := s1.1.1.2.2.2.2.2.1.2
  have t256 := s1.1.1.2.2.2.1.2.1
  refine Tm_suc (fun k => by rw [f_X5_nameStatement]) ?_
  rcases gT_any hG with ⟨w1, w2⟩ | ⟨w1, w2⟩
  · rw [w2]
    exact zt_adv (C := False) s1 (Or.inl ⟨w1, rfl⟩) (fun _ _ _ _ c _ _ => c.elim)
  refine zt_adv (C := True) s1 (Or.inr ⟨w1, trivial⟩) (fun τ2 ret2 n1 n2 _ s2 xk2 => ?_)
  have go2 := tk_go s2.1.1
  have tm2 := TgM_k tm xk2 (Nat.le_refl _)
  have ev2 := EvX_z ev s2.1.2.1
  unfold gAs0 at w2
  generalize hq2 : tkN T n r.1 = q2 at *
  -- an assignment
  have b13 : ∀ (L' : LV), L'.1 5 = nI mk → ¬ (tkK T n q2 = 26 ∧ (fd E (tkS T n q2)).1 = 3) → Tm (fun k => f_X5_nameStatement k 13 L' τ2) (ZPo b u tb.length sz mk (zq x) (fun r _ τ => SzR T n b u al gl Pc Vm tb o mk sz q v w st lo qh r τ) σ (a1 + n1) (a2 + n2)) := by
    intro L' j5 hn
    rw [if_neg hn] at w2
    refine Tm_suc (fun k => by rw [f_X5_nameStatement]) ?_
    have bdx : BdX n o q2 r.2.1 (mk + 4 + ks.length) 0 (sz + cs.length) tb.length := ⟨n10, by omega, by omega, by omega, by omega⟩
    refine zt_call (C := True) s2 (c_assignment (Pc := Pc) (t0 := mk) (f := f) s2.1.1 ev2 bdx (by omega) tm2 (Nat.le_refl _) tv ko (by omega) ri j5 w2) ?_
    cases x with
    | none => exact Or.inl ⟨rfl, rfl⟩
    | some r3 =>
      refine Or.inr ⟨(r3.1, r3.2.1), rfl, trivial, fun τ3 ret3 n3' n4 hr xk3 hc3 => ?_⟩
      obtain ⟨l3, r1, r2, r3', r4, r5, r6⟩ := hr
      have s3 := Zy_cl s2 r1 xk3 hc3 r2 (Nat.le_refl _) (by omega)
      have go3 := tk_go s3.1.1
      have r5' : q2 < r3.1 := r5
      have r4' : 2 * l3.length ≤ 3 * (r3.1 - q2) + (2 * ks.length + 10) := r4
      have lc : (cs ++ l3).length = cs.length + l3.length := List.length_append
      have z := Sst_sg (Pc := Pc) (pre := []) sg 0
      rw [Nat.zero_add] at z
      have sg1 := sg.1
      have ty : Sse u gl Pc Vm [] 0 0 0 (cs ++ l3) := Sse_seq z r3' (by omega)
      exact c_nmEnd (L := L') s3 (by omega) (Nat.le_refl _) j5 ty (Nat.zero_le _) (by rw [lc]; show 2 * (cs.length + l3.length) ≤ 7 * (r3.1 - q); omega) (by show q < r3.1; omega) (by have : r.2.1 ≤ r3.2.1 := r6; show v ≤ r3.2.1; omega)
  -- what is found
  have b11 : ∀ (L' : LV), L'.1 4 = nI sz → L'.1 5 = nI mk → ((L'.1 100 = -1 ∧ ¬ (tkK T n q2 = 26 ∧ (fd E (tkS T n q2)).1 = 3)) ∨ (tkK T n q2 = 26 ∧ ∃ i, L'.1 100 = nI i ∧ LkI tb (tkS T n q2) i)) → Tm (fun k => f_X5_nameStatement k 11 L' τ2) (ZPo b u tb.length sz mk (zq x) (fun r _ τ => SzR T n b u al gl Pc Vm tb o mk sz q v w st lo qh r τ) σ (a1 + n1) (a2 + n2)) := by
    intro L' j4 j5 hh
    refine Tm_suc (fun k => by rw [f_X5_nameStatement]) ?_
    rcases hh with ⟨h1, h2⟩ | ⟨k26, i, h1, lk⟩
    · refine Tm_yes h1 ?_
      exact b13 L' j5 h2
    have lk1 := lk.1
    have okn : okN (tkS T n q2) := (s2.1.1.1.2.2.2.2.2.2.2.2 k26).2
    obtain ⟨nr1, nr2⟩ := ev.1.2 (tkS T n q2) okn
    obtain ⟨en0, en1, en2, en3, en4⟩ := nr1 i lk
    obtain ⟨t1, t2, t3, t4, t5, t6, t7⟩ := s2.1.1.2.2.2.1.2.2 i lk1
    have ii : ¬ (nI i < 0 ∨ 256 ≤ (nI i).toNatClampNeg) := n_in (by omega) (by omega)
    have ci : (nI i).toNatClampNeg = i := n_cl (by omega)
    rw [h1]
    refine Tm_no (n_mn (by omega)) ?_
    refine Tm_oP (Zy_pp s2) ?_
    refine Tm_chk ii ?_
    have e7 : τ2.2.2.1 (pR7 b) (nI i).toNatClampNeg = nI (tb.getD i e0E).2.1 := by rw [ci]; exact t4
    by_cases kd2 : (tb.getD i e0E).2.1 = 2
    case neg =>
      refine Tm_no (by show ¬ τ2.2.2.1 (pR7 b) (nI i).toNatClampNeg = 2; rw [e7]; show ¬ nI (tb.getD i e0E).2.1 = nI 2; rw [n_eq (by omega) (by decide)]; exact kd2) ?_
      refine b13 L' j5 (fun z => ?_)
      have n3' := n3 i lk1
      have c : (tb.getD i e0E).2.1 = 0 ∨ (tb.getD i e0E).2.1 = 1 := by omega
      rcases c with c | c
      · have := (en1 c).1; omega
      · have := (en3 c).1; omega
    obtain ⟨f3, _, hs⟩ := en4 kd2
    refine Tm_yes (by show τ2.2.2.1 (pR7 b) (nI i).toNatClampNeg = 2; rw [e7, kd2]; rfl) ?_
    rw [if_pos ⟨k26, f3⟩] at w2
    unfold gCa0 at w2
    have hP := pe _ okn f3
    obtain ⟨⟨pv1, pv2, pv3⟩, _, _⟩ := pr _ _ hP
    have hmd : MD (fd E (tkS T n q2)).2.1 = MD ((fd E (tkS T n q2)).2.1 + 1 - 1) := rfl
    generalize hvv : (fd E (tkS T n q2)).2.1 + 1 = vv at *
    generalize hnp : E.2.2.2.2.2.2 (fd E (tkS T n q2)).2.1 = np at *
    have g2 := go2.2.2 (by omega)
    have pst : ∃ xp : Option Nat, ((¬ (¬ tkK T n (tkN T n q2) = 0 ∧ tkK T n (tkN T n q2) = 6) ∧ xp = none) ∨ ((¬ tkK T n (tkN T n q2) = 0 ∧ tkK T n (tkN T n q2) = 6) ∧ xp = some (tkN T n q2))) ∧ ((xp = none ∧ x = none) ∨ (xp = some (tkN T n q2) ∧ tkK T n (tkN T n q2) = 6 ∧ gCl0 T n f (MD (fd E (tkS T n q2)).2.1) np E o (tkN T n q2) r.2.1 r.2.2.2.2.1 = some x)) := by
      rcases gT_any w2 with ⟨y1, y2⟩ | ⟨y1, y2⟩
      · exact ⟨none, Or.inl ⟨fun z => z.1 y1, rfl⟩, Or.inl ⟨rfl, y2⟩⟩
      by_cases k6 : tkK T n (tkN T n q2) = 6
      · rw [if_pos k6] at y2
        exact ⟨_, Or.inr ⟨⟨y1, k6⟩, rfl⟩, Or.inr ⟨rfl, k6, y2⟩⟩
      · rw [if_neg k6] at y2
        exact ⟨none, Or.inl ⟨fun z => k6 z.2, rfl⟩, Or.inl ⟨rfl, (Option.some.inj y2).symm⟩⟩
    obtain ⟨xp, hp1, hp2⟩ := pst
    refine zt_callO (C := True) (c_postp (x := xp) s2 (Nat.le_refl _) (by omega) j4 hp1) ?_
    rcases hp2 with ⟨e1, e2⟩ | ⟨e1, k6, hgc⟩
    · exact Or.inl ⟨e1, by rw [e2]; rfl⟩
    refine Or.inr ⟨_, e1, trivial, fun τ3 ret3 n5 n6 hr zk3 hc3 => ?_⟩
    obtain ⟨sb3, kp3, hm3⟩ := hr
    have s3 : Zy T n b u al σ tb.length sz mk (a1 + n1 + n5) (a2 + n2 + n6) tb o (tkN T n q2) r.2.1 (mk + 4 + ks.length) w st lo qh sz [] τ3 := ⟨⟨sb3.1.1, zk3, hc3, Nat.le_refl _, Nat.le_refl _, by omega⟩, sb3.2.1, sb3.2.2⟩
    have go3 := tk_go s3.1.1
    have tm3 : TgM τ3 mk s ow ks := by
      obtain ⟨⟨z1, z2, z3, z4⟩, z5⟩ := tm2
      exact ⟨⟨by rw [hm3 _ (by omega)]; exact z1, by rw [hm3 _ (by omega)]; exact z2, by rw [hm3 _ (by omega)]; exact z3, by rw [hm3 _ (by omega)]; exact z4⟩, fun i hi => by rw [hm3 _ (by omega)]; exact z5 i hi⟩
    refine Tm_oP (Zy_pp s3) ?_
    refine Tm_chk ii ?_
    have t63 : τ3.2.2.1 (pR9 b) (nI i).toNatClampNeg = nI vv := by
      obtain ⟨t1', t2', t3', t4', t5', t6', t7'⟩ := s3.1.1.2.2.2.1.2.2 i lk1
      rw [ci, t6', hs]
    have k13 : τ3.1 4013 = nI cs.length := kp3.1.1
    have ev3 := EvX_z ev zk3
    have pr3 := PcR_k pr zk3
    refine zt_callZ (C := True) s3 (c_call (lt0 := cs) (vv := vv) (np := np) s3.1.1 s3.2.2 ev3 pr3 hP hmd n3 n10 (by omega) (by omega) (by show 2 * (sz + 0) + 7 * (n - tkN T n q2) + 2 * cs.length + 100 ≤ _; omega) k6 kp3 (by omega) t63 k13 hgc) ?_
    cases x with
    | none => exact Or.inl ⟨rfl, rfl⟩
    | some r4 =>
      refine Or.inr ⟨(r4.1, r4.2.1), rfl, trivial, fun τ4 ret4 n7 n8 hr zk4 hc4 => ?_⟩
      obtain ⟨cc, pp, r1, r2, r3, ⟨r4a, r4b⟩, r5, r6, r7, r8⟩ := hr
      have s4 := Zy_ca s3 r1 zk4 hc4 r2 (Nat.le_refl _) (by omega) r3
      have s4' : Zy T n b u al σ tb.length sz mk (a1 + n1 + n5 + n7) (a2 + n2 + n6 + n8) tb o r4.1 r4.2.1 (mk + 4 + ks.length) w st lo qh sz (cc ++ (pp ++ cs)) τ4 := s4
      have go4 := tk_go s4'.1.1
      have r7' : tkN T n q2 < r4.1 := r7
      have r6' : 2 * (cc.length + pp.length) ≤ 7 * (r4.1 - tkN T n q2) := r6
      have lcp : (cc ++ (pp ++ cs)).length = cc.length + pp.length + cs.length := by rw [List.length_append, List.length_append]; omega
      have tm4 : TgM τ4 mk s ow ks := by
        obtain ⟨⟨z1, z2, z3, z4⟩, z5⟩ := tm3
        have hm4 := zk4.2.2.2.2.2.2.1
        exact ⟨⟨by rw [hm4 _ (by omega)]; exact z1, by rw [hm4 _ (by omega)]; exact z2, by rw [hm4 _ (by omega)]; exact z3, by rw [hm4 _ (by omega)]; exact z4⟩, fun i hi => by rw [hm4 _ (by omega)]; exact z5 i hi⟩
      refine Tm_oP (Zy_pp s4') ?_
      refine Tm_chk ii ?_
      have t64 : τ4.2.2.1 (pR9 b) (nI i).toNatClampNeg = nI vv := by
        obtain ⟨t1', t2', t3', t4', t5', t6', t7'⟩ := s4'.1.1.2.2.2.1.2.2 i lk1
        rw [ci, t6', hs]
      have p14 := (PcR_k pr s4'.1.2.1 _ _ hP).2.1
      obtain ⟨g, hgg⟩ : ∃ g, g = if ow = u then 0 else 1 := ⟨_, rfl⟩
      refine zt_call (C := True) s4' (c_assignR (g := g) (t0 := mk) (np := np) (vv := vv) s4'.1.1 u42 tm4 (Nat.le_refl _) (by omega) hgg tv.2.2 (by omega) pv2 p14 (by rw [lcp]; omega) j5 t64) (Or.inr ⟨(), rfl, trivial, fun τ5 ret5 n9 n10' hr5 xk5 hc5 => ?_⟩)
      have s5 := Zy_cl s4' hr5.1 xk5 hc5 hr5.2 (Nat.le_refl _) (by omega)
      have la : ([em 38 (nI (wdN ks + np))] ++ (rwL (192 + g) s (wdN ks + 1) ks ++ [em 37 (nI (wdN ks + 2 + np))])).length = ks.length + 5 := by
        rw [List.length_append, List.length_append, rwL_l]
        show 1 + (ks.length + 3 + 1) = _
        omega
      have lf : (cc ++ (pp ++ cs) ++ ([em 38 (nI (wdN ks + np))] ++ (rwL (192 + g) s (wdN ks + 1) ks ++ [em 37 (nI (wdN ks + 2 + np))]))).length = cc.length + pp.length + cs.length + (ks.length + 5) := by rw [List.length_append, lcp, la]
      have sg1 := sg.1
      have ty : Sse u gl Pc Vm [] 2 0 0 (cc ++ (pp ++ cs) ++ ([em 38 (nI (wdN ks + np))] ++ (rwL (192 + g) s (wdN ks + 1) ks ++ [em 37 (nI (wdN ks + 2 + np))]))) := by
        have z1 := Sse_ar (Pc := Pc) tv hgg gl1 ko (by omega) pv2
        have z2 := Sse_seq (Sst_sg (Pc := Pc) (pre := []) sg (1 + np)) z1 (by omega)
        have z3 := Sse_seq r5 z2 (by omega)
        have z4 := Sse_seq r4a z3 (by omega)
        rw [List.append_assoc, List.append_assoc]
        exact z4
      refine c_nmEnd (L := L') s5 (by omega) (Nat.le_refl _) j5 ty (Nat.le_refl _) ?_ (by show q < r4.1; omega) (by have : r.2.1 ≤ r4.2.1 := r8; show v ≤ r4.2.1; omega)
      rw [lf]
      show 2 * (cc.length + pp.length + cs.length + (ks.length + 5)) ≤ 7 * (r4.1 - q)
      omega
  by_cases k26 : tkK T n q2 = 26
  · refine Tm_yes ((lx_k (kk := 26) s2.1.1 (by decide)).2 k26) ?_
    refine Tm_oP (Zy_pp s2) ?_
    have l9 := s2.1.1.1.2.2.2.2.2.2.2.2 k26
    refine Tm_op (c_found (bs := tkS T n q2) s2.1.1.2.2.2.1 rfl l9.2 l9.1.1 l9.1.2) (fun r4 z4 => ?_)
    obtain ⟨e4, h4⟩ := z4
    rw [e4]
    refine b11 _ l4 l5 ?_
    rcases h4 with ⟨i, e5, lk⟩ | ⟨e5, lk⟩
    · exact Or.inr ⟨k26, i, e5, lk⟩
    · refine Or.inl ⟨e5, fun z => ?_⟩
      have := (ev.1.2 (tkS T n q2) l9.2).2 lk
      omega
  · refine Tm_no (fun z => k26 ((lx_k (kk := 26) s2.1.1 (by decide)).1 z)) ?_
    refine Tm_suc (fun k => by rw [f_X5_nameStatement]) ?_
    exact b11 _ l4 l5 (Or.inl ⟨rfl, fun z => k26 z.1⟩)
end CXN
