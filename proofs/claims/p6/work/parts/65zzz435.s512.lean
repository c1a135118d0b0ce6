/-! The class: names of a for's iter are told. -/
section CYB
variable {σ σ' σ0 τ τ' τ0 : CS} {L : LV} {b : Bool} {T : Nat → Int32} {n q q' u al o v mk mk' p sz sz' szB szE nc nc0 sz0 mk0 a1 a2 m kk f e s0 ow a t0 g D w st w' st' M nm deep vv np lp N Bd nb k d P h st0 b0 it q0 v0 r0 c : Nat} {y qh qh' y0 y1 wd x0 x1 x3 : Int32} {l l' cs cs' cs2 ll lt lt0 co bo : List Int32} {tb tb' es : List Ent} {ns : List Nm} {E : En} {gl : Nat × (Nat → Nat → Prop)} {Vm Vm' : Nat → Prop} {Pc : Nat → Nat → Prop} {MD : Nat → Nat → Nat} {md : Nat → Nat} {bt : BT} {ks qs qs' qa qb js qsI : List Nat} {lo lo' : Option Nat} {s : SB} {α : Type} {S : α → Int32 → CS → Prop} {x : Option α} {C : Prop} {hd : Bool}
theorem pR18_c (b : Bool) : (pR17 b = 73 ∧ pR18 b = 74) ∨ (pR17 b = 62 ∧ pR18 b = 63) := by cases b <;> decide
theorem ZF_e (h : ZF b u w st lo qh σ) (f1 : ∀ j, (j = fP b 3 ∨ j = 4008 ∨ j = 4009) → σ'.1 j = σ.1 j) (f2 : σ'.2.2.1 (pR18 b) u = σ.2.2.1 (pR18 b) u) (f3 : sN σ' 42 = sN σ 42) : ZF b u w st lo qh σ' := ⟨f2.trans h.1, ⟨by rw [f1 _ (Or.inl rfl)]; exact h.2.1.1, h.2.1.2⟩, by rw [f1 _ (Or.inr (Or.inl rfl))]; exact h.2.2.1, by rw [f1 _ (Or.inr (Or.inr rfl))]; exact h.2.2.2.1, by rw [f3]; exact h.2.2.2.2⟩
/-- counts of the unit are set -/
theorem Zy_r {k : Nat} {x : Int32} (h : Zy T n b u al σ0 nc0 sz0 mk0 a1 a2 tb o q v mk w st lo qh szB cs τ) (hk : k = pR17 b ∨ k = pR18 b) (zf : ZF b u w' st lo qh (uA τ k u x)) : Zy T n b u al σ0 nc0 sz0 mk0 a1 a2 tb o q v mk w' st lo qh szB cs (uA τ k u x) := by
  have ph := Ph_s (σ := τ) (σ' := uA τ k u x) rfl
  obtain ⟨⟨hq, h2', h3, h4, h5, h6⟩, k2, _⟩ := h
  obtain ⟨h1, h2, h3', h4', ⟨h5', h5'', h5'''⟩, ⟨h6', h6''⟩, ⟨h7, h7'⟩, h8⟩ := hq
  have pc := pR_c b
  have pc2 := pR18_c b
  have e78 : ¬ pR7 b = k ∧ ¬ pR8 b = k ∧ ¬ pR9 b = k ∧ ¬ pR10 b = k ∧ ¬ pR16 b = k ∧ ¬ k = 38 ∧ ¬ k = 41 ∧ ¬ k = 43 ∧ ¬ k = 51 := by
    rcases hk with z | z <;> rcases pc with y | y <;> rcases pc2 with t | t <;> omega
  have m3 := h3'.2
  have cd : ∀ c i, cdr c (uA τ k u x) i = cdr c τ i := fun c i => by
    show (uA τ k u x).2.2.1 (pR0 (sKd τ c)) i = _
    rcases pR0_c (sKd τ c) with z | z
    · rw [uA_k (by omega)]
    · rw [uA_k (by omega)]
  have q1 : QS T n b u al tb o q v mk 0 (szB + cs.length) (uA τ k u x) := ⟨LxQ_s h1 (fun _ _ _ => rfl) ⟨rfl, rfl⟩ (uA_k (by omega)) rfl rfl, CdL_s h2 rfl rfl ⟨rfl, rfl⟩, h3', TbR_s h4' rfl rfl rfl (uA_k (by omega)) (uA_k (by omega)) (uA_k (by omega)) (uA_k (by omega)), ⟨h5', h5'', h5'''⟩, ⟨h6', h6''⟩, ⟨by rw [uA_k (by omega)]; exact h7, h7'⟩, h8⟩
  have q2 : ZK b u tb.length (szB + cs.length) mk τ (uA τ k u x) := ⟨⟨fun _ _ => rfl, fun _ _ => rfl⟩, ⟨fun j hj => uA_k (fun z => by rcases hk with y | y <;> rw [← z] at y <;> omega), fun _ _ => rfl, fun _ _ => rfl⟩, ⟨⟨rfl, rfl, rfl, rfl⟩, fun _ _ => rfl, rfl⟩, fun i hi => ⟨by rw [uA_k (by omega)], by
      by_cases z : pR18 b = k
      · rw [z, uA_r, upd_other hi]
      · rw [uA_k z]⟩, fun i _ => ⟨⟨rfl, rfl⟩, ⟨by rw [uA_k (by omega)], by rw [uA_k (by omega)]⟩, by rw [uA_k (by omega)], by rw [uA_k (by omega)]⟩, fun i _ => ⟨cd b i, cd (!b) i⟩, fun i _ => by rw [uA_k (by omega)], (CdL_s (σ' := uA τ k u x) h2 rfl rfl ⟨rfl, rfl⟩).2, m3, Or.inl rfl⟩
  refine ⟨⟨q1, ZK_t h2' q2 h4 h5 h6, ⟨by omega, by omega⟩, h4, h5, h6⟩, fun i hi => ?_, zf⟩
  rw [cd]
  exact k2 i hi
theorem Zy_tb (h : Zy T n b u al σ0 nc0 sz0 mk0 a1 a2 tb o q v mk w st lo qh szB cs τ) (a : TbQ b nc tb' τ τ') (h1 : nc0 ≤ nc) (h2 : nc0 ≤ tb'.length) : Zy T n b u al σ0 nc0 sz0 mk0 a1 a2 tb' o q v mk w st lo qh szB cs τ' := by
  obtain ⟨q1, q2⟩ := QS_tb h.1.1 a
  have ph := Ph_s (σ := τ) (σ' := τ') (by rw [a.2.2.2.2.1])
  have zf := ZF_k h.2.2 q2
  obtain ⟨⟨h1', h2', h3, h4, h5, h6⟩, k2, _⟩ := h
  refine ⟨⟨q1, ZK_t h2' (ZK_of q2) h1 h5 h6, ⟨by omega, by omega⟩, h2, h5, h6⟩, fun i hi => ?_, zf⟩
  rw [(q2.2.2.2.2.2.1 (szB + i) (by omega)).1]
  exact k2 i hi
theorem c_newSlots {k0 : Nat} (h : Zy T n b u al σ0 nc0 sz0 mk0 a1 a2 tb o q v mk w st lo qh szB cs τ) (hu : u < 42) (hw : w + k0 < 2147483648) (hb : L.2.2.1 0 = b) (h1 : L.1 1 = nI u) (h2 : L.1 2 = nI k0) : Tm (fun k => y_X7_newSlots__P k 0 L τ) (fun r => r.1 = nI w ∧ Zy T n b u al σ0 nc0 sz0 mk0 a1 a2 tb o q v mk (w + k0) st lo qh szB cs r.2) := by
  have i42 : ¬ (nI u < 0 ∨ 42 ≤ (nI u).toNatClampNeg) := u_in (by rw [u_n (by omega)]; omega) (by decide)
  have zf := h.2.2
  refine Tm_suc (fun k => by rw [y_X7_newSlots__P]) ?_
  rw [hb, h1, h2]
  refine Tm_chk i42 (Tm_chk i42 (Tm_chk i42 ?_))
  rw [n_cl (p := u) (by omega), zf.1, n_add hw]
  refine Tm_some ⟨?_, Zy_r h (Or.inr rfl) ⟨by rw [uA_r, upd_same], zf.2⟩⟩
  show (uA τ (pR18 b) u (nI (w + k0))).2.2.1 (pR18 b) u - nI k0 = nI w
  rw [uA_r, upd_same, n_sub (by omega) (by omega)]
  exact congrArg nI (by omega)
theorem c_chkS (h : QS T n b u al tb o q v mk 0 sz τ) (hu : u < 42) (h1 : L.1 1 = nI r0) (hr : r0 ≤ tb.length) : ∀ z : Option Unit, ((¬ (tkK T n q = 26 ∧ (∀ j, r0 ≤ j → j < tb.length → ¬ (tb.getD j e0E).1 = tkS T n q) ∧ ¬ v = 60) ∧ z = none) ∨ ((tkK T n q = 26 ∧ (∀ j, r0 ≤ j → j < tb.length → ¬ (tb.getD j e0E).1 = tkS T n q) ∧ ¬ v = 60) ∧ z = some ())) → Tm (fun k => f_X5_checkName k 0 L τ) (QPo b u tb.length sz mk z (fun _ _ τ' => QS T n b u al tb o q (v + 1) mk 0 sz τ') τ 0 0) := by
  have s0 := Sy_0 h
  have e3 : τ.1 4003 = nI u := h.2.2.2.2.1.2.1
  have i42 : ¬ (nI u < 0 ∨ 42 ≤ (nI u).toNatClampNeg) := u_in (by rw [u_n (by omega)]; omega) (by decide)
  have e7 := h.2.2.2.2.2.2.1
  intro z hz
  refine Tm_suc (fun k => by rw [f_X5_checkName]) ?_
  by_cases k26 : tkK T n q = 26
  · have okn : okN (tkS T n q) := (s0.1.1.1.2.2.2.2.2.2.2.2 k26).2
    have ky := (s0.1.1.1.2.2.2.2.2.2.2.2 k26).1
    refine Tm_yes ((lx_k (kk := 26) s0.1.1 (by decide)).2 k26) ?_
    refine Tm_suc (fun k => by rw [f_X5_checkName]) ?_
    refine Tm_oP (Sy_pp s0) ?_
    refine Tm_op (c_toldFrom (r0 := r0) (bs := tkS T n q) s0.1.1.2.2.2.1 rfl okn ky.1 ky.2 h1 hr) (fun r2 z2 => ?_)
    obtain ⟨e2, f2⟩ := z2
    rw [e2]
    by_cases kt : ∀ j, r0 ≤ j → j < tb.length → ¬ (tb.getD j e0E).1 = tkS T n q
    · refine Tm_yes (f2.2 kt) ?_
      refine Tm_suc (fun k => by rw [f_X5_checkName]) ?_
      refine Tm_oP (Sy_pp s0) ?_
      rw [e3]
      refine Tm_chk i42 ?_
      rw [n_cl (p := u) (by omega), e7.1]
      by_cases v60 : v = 60
      · refine Tm_no (by show ¬ nI v < nI 60; rw [n_lt (by omega) (by decide)]; omega) ?_
        have zn : z = none := by
          rcases hz with w | w
          · exact w.2
          · exact absurd v60 w.1.2.2
        rw [zn]
        exact st_ref s0.1
      · refine Tm_yes (by show nI v < nI 60; rw [n_lt (by omega) (by decide)]; omega) ?_
        have zs : z = some () := by
          rcases hz with w | w
          · exact absurd ⟨k26, kt, v60⟩ w.1
          · exact w.2
        rw [zs]
        refine Tm_suc (fun k => by rw [f_X5_checkName]) ?_
        refine Tm_oP (Sy_pp s0) ?_
        rw [e3]
        refine Tm_chk i42 (Tm_chk i42 ?_)
        rw [n_cl (p := u) (by omega), e7.1, n_add1]
        have s1 := Sy_v s0 (by omega)
        exact Tm_some (Qfin s1.1 s1.1.1)
    · refine Tm_no (fun w => kt (f2.1 w)) ?_
      have zn : z = none := by
        rcases hz with w | w
        · exact w.2
        · exact absurd w.1.2.1 kt
      rw [zn]
      exact st_ref s0.1
  · refine Tm_no (fun w => k26 ((lx_k (kk := 26) s0.1.1 (by decide)).1 w)) ?_
    have zn : z = none := by
      rcases hz with w | w
      · exact w.2
      · exact absurd w.1.1 k26
    rw [zn]
    exact st_ref s0.1
theorem zt_chk {f' : Nat → RS → Option RS} (h : Zy T n b u al σ0 nc0 sz0 mk0 a1 a2 tb o q v mk w st lo qh szB cs τ) (hu : u < 42) (h1 : L.1 1 = nI r0) (hr : r0 ≤ tb.length) (hx : (¬ (tkK T n q = 26 ∧ (∀ j, r0 ≤ j → j < tb.length → ¬ (tb.getD j e0E).1 = tkS T n q) ∧ ¬ v = 60) ∧ x = none) ∨ ((tkK T n q = 26 ∧ (∀ j, r0 ≤ j → j < tb.length → ¬ (tb.getD j e0E).1 = tkS T n q) ∧ ¬ v = 60) ∧ C)) (cont : ∀ (τ' : CS) (ret : Int32) (n1 n2 : Nat), C → Zy T n b u al σ0 nc0 sz0 mk0 (a1 + n1) (a2 + n2) tb o q (v + 1) mk w st lo qh szB cs τ' → Tm (fun k => f' k ((0, ret), τ', (n1, n2))) (ZPo b u nc0 sz0 mk0 x S σ0 (a1 + n1) (a2 + n2))) : Tm (fun k => ox (f_X5_checkName k 0 L τ) (f' k)) (ZPo b u nc0 sz0 mk0 x S σ0 a1 a2) := by
  rcases hx with ⟨w1, w2⟩ | ⟨w1, c⟩
  · exact zt_call (C := True) h (c_chkS h.1.1 hu h1 hr none (Or.inl ⟨w1, rfl⟩)) (Or.inl ⟨rfl, w2⟩)
  · exact zt_call (C := C) h (c_chkS h.1.1 hu h1 hr (some ()) (Or.inr ⟨w1, rfl⟩)) (Or.inr ⟨_, rfl, c, fun τ' ret n1 n2 hq xk hc => cont τ' ret n1 n2 c (Zy_c0 h hq (ZK_of xk) hc h.1.2.2.2.1 h.1.2.2.2.2.2 (ZF_k h.2.2 xk))⟩)
theorem zt_name (h : Zy T n b u al σ0 nc0 sz0 mk0 a1 a2 tb o q v mk w st lo qh szB cs τ) (hu : u < 42) (hl : v < 60 → tb.length < 256) (hp : w ≤ 1000) (l1 : L.1 1 = nI r0) (hr : r0 ≤ tb.length) (l3 : L.1 3 = 1) (l4 : L.1 4 = 1) (l5 : uN (L.1 5) ≤ 60) (hx : (¬ NmG T n tb r0 q v ∧ x = none) ∨ (NmG T n tb r0 q v ∧ C)) (cont : ∀ (L' : LV) (τ' : CS) (m1 m2 : Nat), C → tkK T n q = 26 → L'.1 1 = L.1 1 → L'.1 2 = L.1 2 → L'.1 3 = 1 → L'.1 5 = L.1 5 → Zy T n b u al σ0 nc0 sz0 mk0 (a1 + m1) (a2 + m2) (tb ++ [(tkS T n q, 0, u, w, true)]) o (tkN T n q) (v + 1) mk (w + 1) st lo qh szB cs τ' → Tm (fun k => if L'.1 2 = 0 then f_X5_iterNames k 11 L' τ' else if τ'.1 3702 = 16 then f_X5_iterNames k 12 (lI L' 100 1) τ' else f_X5_iterNames k 11 L' τ') (ZPo b u nc0 sz0 mk0 x S σ0 (a1 + m1) (a2 + m2))) : Tm (fun k => f_X5_iterNames k 2 L τ) (ZPo b u nc0 sz0 mk0 x S σ0 a1 a2) := by
  have e3 : τ.1 4003 = nI u := h.1.1.2.2.2.2.1.2.1
  have i42 : ¬ (nI u < 0 ∨ 42 ≤ (nI u).toNatClampNeg) := u_in (by rw [u_n (by omega)]; omega) (by decide)
  have l30 : ¬ L.1 3 = 0 := by rw [l3]; decide
  refine Tm_suc (fun k => by rw [f_X5_iterNames]) ?_
  refine Tm_no (by rw [u_ltn (by decide) (by omega)]; show ¬ 60 < uN (L.1 5); omega) ?_
  refine Tm_no (by rw [l4]; decide) ?_
  have hx2 : (¬ (tkK T n q = 26 ∧ (∀ j, r0 ≤ j → j < tb.length → ¬ (tb.getD j e0E).1 = tkS T n q) ∧ ¬ v = 60) ∧ x = none) ∨ ((tkK T n q = 26 ∧ (∀ j, r0 ≤ j → j < tb.length → ¬ (tb.getD j e0E).1 = tkS T n q) ∧ ¬ v = 60) ∧ (tkK T n q = 26 ∧ (¬ v = 60) ∧ ((tkK T n (tkN T n q) = 0 ∧ x = none) ∨ (¬ tkK T n (tkN T n q) = 0 ∧ C)))) := by
    by_cases z : tkK T n q = 26 ∧ (∀ j, r0 ≤ j → j < tb.length → ¬ (tb.getD j e0E).1 = tkS T n q) ∧ ¬ v = 60
    · refine Or.inr ⟨z, z.1, z.2.2, ?_⟩
      rcases hx with ⟨w1, w2⟩ | ⟨w1, w2⟩
      · refine Or.inl ⟨?_, w2⟩
        by_cases z2 : tkK T n (tkN T n q) = 0
        · exact z2
        · exact absurd ⟨z.1, z.2.1, z.2.2, z2⟩ w1
      · exact Or.inr ⟨w1.2.2.2, w2⟩
    · refine Or.inl ⟨z, ?_⟩
      rcases hx with ⟨w1, w2⟩ | ⟨w1, w2⟩
      · exact w2
      · exact absurd ⟨w1.1, w1.2.1, w1.2.2.1⟩ z
  refine zt_chk h hu l1 hr hx2 (fun τ1 ret1 m1 m2 c1 s1 => ?_)
  obtain ⟨k26, v60, c1⟩ := c1
  have hl := hl (by have := h.1.1.2.2.2.2.2.2.1.2; omega)
  have e31 : τ1.1 4003 = nI u := s1.1.1.2.2.2.2.1.2.1
  refine Tm_oP (Zy_pp s1) ?_
  show Tm (fun k => if ¬ (τ1.1 4003 < 0 ∨ 42 ≤ (τ1.1 4003).toNatClampNeg) then _ else none) _
  rw [e31]
  refine Tm_chk i42 ?_
  refine Tm_no l30 ?_
  refine Tm_suc (fun k => by rw [f_X5_iterNames]) ?_
  refine Tm_chk i42 ?_
  refine Tm_no l30 ?_
  have s1' : Zy T n b u al σ0 nc0 sz0 mk0 (a1 + m1) (a2 + m2) tb o q (v + 1) mk w st lo qh szB cs (uA τ1 (pR17 b) u (τ1.2.2.1 (pR17 b) u + 1)) := by
    have pc2 := pR18_c b
    exact Zy_r s1 (Or.inl rfl) (ZF_e s1.2.2 (fun _ _ => rfl) (by rw [uA_k (by omega)]) rfl)
  show Tm (fun k => oP (sPp (uA τ1 (pR17 b) (nI u).toNatClampNeg (τ1.2.2.1 (pR17 b) (nI u).toNatClampNeg + 1))) (fun b3 => op (y_X7_newSlots__P k 0 (lI (lI (lB lZ 0 b3) 1 (τ1.1 4003)) 2 1) (uA τ1 (pR17 b) (nI u).toNatClampNeg (τ1.2.2.1 (pR17 b) (nI u).toNatClampNeg + 1))) (fun r4 => f_X5_iterNames k 8 (lI (lB (lI (lI (lI L 100 1) 101 (τ1.2.2.1 (pR17 b) (nI u).toNatClampNeg)) 102 (nI u)) 103 b) 100 r4.1) r4.2))) _
  rw [n_cl (p := u) (by omega)]
  refine Tm_oP (Zy_pp s1') ?_
  have ns1 := c_newSlots (L := lI (lI (lB lZ 0 b) 1 (τ1.1 4003)) 2 1) (k0 := 1) s1' hu (by omega) rfl e31 rfl
  refine Tm_op ns1 (fun r2 z2 => ?_)
  obtain ⟨er2, s2⟩ := z2
  refine Tm_suc (fun k => by rw [f_X5_iterNames]) ?_
  refine Tm_oP (Zy_pp s2) ?_
  refine Tm_no l30 ?_
  refine Tm_suc (fun k => by rw [f_X5_iterNames]) ?_
  have okn : okN (tkS T n q) := (s2.1.1.1.2.2.2.2.2.2.2.2 k26).2
  have ky := (s2.1.1.1.2.2.2.2.2.2.2.2 k26).1
  refine Tm_op (c_tell (bs := tkS T n q) (w0 := 0) (o0 := u) (s0 := w) s2.1.1.2.2.2.1 hl rfl okn ky.1 ky.2 rfl s2.1.1.2.2.2.2.1.2.1 er2) (fun r3 z3 => ?_)
  have nc := h.1.2.2.2.1
  have s3 := Zy_tb s2 z3 nc (by rw [List.length_append]; omega)
  refine Tm_oP (Zy_pp s3) (Tm_oP (Zy_pp s3) ?_)
  have e11 : r3.2.1 (fP b 11) - 1 = nI tb.length := by
    rw [s3.1.1.2.2.2.1.1, List.length_append]
    exact n_sub1 (by omega)
  rw [e11]
  refine Tm_chk (u_in (by rw [u_n (by omega)]; omega) (by decide)) ?_
  rw [n_cl (p := tb.length) (by omega), show vp_nar .boolean 1 = (1 : Int32) from rfl]
  have ho : TbQ b tb.length ((tb ++ [(tkS T n q, 0, u, w, false)]).set tb.length (tkS T n q, 0, u, w, true)) r3.2 (uA r3.2 (pR10 b) tb.length 1) := TbQ_hd (e1 := (tkS T n q, 0, u, w, false)) (hd := true) s3.1.1.2.2.2.1 (by rw [List.length_append]; show tb.length < tb.length + 1; omega) (Nat.le_refl _) gE_0
  have es : (tb ++ [(tkS T n q, 0, u, w, false)]).set tb.length (tkS T n q, 0, u, w, true) = tb ++ [(tkS T n q, 0, u, w, true)] := by
    rw [List.set_append_right _ _ (Nat.le_refl _), Nat.sub_self]; rfl
  rw [es] at ho
  have s4 := Zy_tb s3 ho nc (by rw [List.length_append]; omega)
  refine zt_adv s4 c1 (fun τ5 ret5 m3 m4 c5 s5 xk5 => ?_)
  rw [Nat.add_assoc a1 m1 m3, Nat.add_assoc a2 m2 m4] at s5 ⊢
  exact cont _ τ5 _ _ c5 k26 rfl rfl l3 rfl s5
end CYB
