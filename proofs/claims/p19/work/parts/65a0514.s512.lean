section JnS512
/-! The class: names of a for's iter are told. -/
section CYB
variable {σ σ' σ0 τ τ' τ0 : CS} {L : LV} {b : Bool} {T : Nat → Int32} {n q q' u al o v mk mk' p sz sz' szB szE nc nc0 sz0 mk0 a1 a2 m kk f e s0 ow a t0 g D w st w' st' M nm deep vv np lp N Bd nb k d P h st0 b0 it q0 v0 r0 c : Nat} {y qh qh' y0 y1 wd x0 x1 x3 : Int32} {l l' cs cs' cs2 ll lt lt0 co bo : List Int32} {tb tb' es : List Ent} {ns : List Nm} {E : En} {gl : Nat × (Nat → Nat → Prop)} {Vm Vm' : Nat → Prop} {Pc : Nat → Nat → Prop} {MD : Nat → Nat → Nat} {md : Nat → Nat} {bt : BT} {ks qs qs' qa qb js qsI : List Nat} {lo lo' : Option Nat} {s : SB} {α : Type} {S : α → Int32 → CS → Prop} {x : Fl α} {C : Prop} {hd : Bool}
theorem pR18_c (b : Bool) : (pR17 b = 73 ∧ pR18 b = 74) ∨ (pR17 b = 62 ∧ pR18 b = 63) := by cases b <;> decide
theorem ZF_e (h : ZF b u w st lo qh σ) (f1 : ∀ j, (j = fP b 3 ∨ j = 4008 ∨ j = 4009) → σ'.1 j = σ.1 j) (f2 : σ'.2.2.1 (pR18 b) u = σ.2.2.1 (pR18 b) u) (f3 : sN σ' 42 = sN σ 42) : ZF b u w st lo qh σ' := ⟨f2.trans h.1, ⟨by rw [f1 _ (Or.inl rfl)]; exact h.2.1.1, h.2.1.2⟩, by rw [f1 _ (Or.inr (Or.inl rfl))]; exact h.2.2.1, by rw [f1 _ (Or.inr (Or.inr rfl))]; exact h.2.2.2.1, by rw [f3]; exact h.2.2.2.2⟩
/-- counts of the unit are set -/
theorem Zy_r {k : Nat} {x : Int32} (h : Zy T n b u al σ0 nc0 sz0 mk0 a1 a2 tb o q v mk w st lo qh szB cs τ) (hk : k = pR17 b ∨ k = pR18 b) (zf : ZF b u w' st lo qh (uA τ k u x)) : Zy T n b u al σ0 nc0 sz0 mk0 a1 a2 tb o q v mk w' st lo qh szB cs (uA τ k u x) := by
  have ph := Ph_s (σ := τ) (σ' := uA τ k u x) rfl
  obtain ⟨⟨hq, h2', h3, h4, h5, h6⟩, k2, _⟩ := h
  obtain ⟨h1, h2, h3', h4', ⟨h5', h5'', h5'''⟩, ⟨h6', h6''⟩, ⟨h7, h7'⟩, h8⟩ := hq
  have pc := pR_c b
  have pc2 := pR18_c b
  have e78 : ¬ pR7 b = k ∧ ¬ pR8 b = k ∧ ¬ pR9 b = k ∧ ¬ pR10 b = k ∧ ¬ pR16 b = k ∧ ¬ k = 38 ∧ ¬ k = 41 ∧ ¬ k = 43 ∧ ¬ k = 51 := by
    rcases hk with z | z <;> rcases pc with y | y <;> rcases pc2 with t | t <;> omega
  have m3 := h3'.2
  have cd : ∀ c i, cdr c (uA τ k u x) i = cdr c τ i := fun c i => by
    show (uA τ k u x).2.2.1 (pR0 (sKd τ c)) i = _
    rcases pR0_c (sKd τ c) with z | z
    · rw [uA_k (by omega)]
    · rw [uA_k (by omega)]
  have q1 : QS T n b u al tb o q v mk 0 (szB + cs.length) (uA τ k u x) := ⟨LxQ_s h1 (fun _ _ _ => rfl) ⟨rfl, rfl⟩ (uA_k (by omega)) rfl rfl, CdL_s h2 rfl rfl ⟨rfl, rfl⟩, h3', TbR_s h4' rfl rfl rfl (uA_k (by omega)) (uA_k (by omega)) (uA_k (by omega)) (uA_k (by omega)), ⟨h5', h5'', h5'''⟩, ⟨h6', h6''⟩, ⟨by rw [uA_k (by omega)]; exact h7, h7'⟩, h8⟩
  have q2 : ZK b u tb.length (szB + cs.length) mk τ (uA τ k u x) := ⟨⟨fun _ _ => rfl, fun _ _ => rfl⟩, ⟨fun j hj => uA_k (fun z => by rcases hk with y | y <;> rw [← z] at y <;> omega), fun _ _ => rfl, fun _ _ => rfl⟩, ⟨⟨rfl, rfl, rfl, rfl⟩, fun _ _ => rfl, rfl⟩, fun i hi => ⟨by rw [uA_k (by omega)], by
      by_cases z : pR18 b = k
      · rw [z, uA_r, upd_other hi]
      · rw [uA_k z]⟩, fun i _ => ⟨⟨rfl, rfl⟩, ⟨by rw [uA_k (by omega)], by rw [uA_k (by omega)]⟩, by rw [uA_k (by omega)], by rw [uA_k (by omega)]⟩, fun i _ => ⟨cd b i, cd (!b) i⟩, fun i _ => by rw [uA_k (by omega)], (CdL_s (σ' := uA τ k u x) h2 rfl rfl ⟨rfl, rfl⟩).2, m3, Or.inl rfl⟩
  refine ⟨⟨q1, ZK_t h2' q2 h4 h5 h6, ⟨by omega, by omega⟩, h4, h5, h6⟩, fun i hi => ?_, zf⟩
  rw [cd]
  exact k2 i hi
theorem Zy_tb (h : Zy T n b u al σ0 nc0 sz0 mk0 a1 a2 tb o q v mk w st lo qh szB cs τ) (a : TbQ b nc tb' τ τ') (h1 : nc0 ≤ nc) (h2 : nc0 ≤ tb'.length) : Zy T n b u al σ0 nc0 sz0 mk0 a1 a2 tb' o q v mk w st lo qh szB cs τ' := by
  obtain ⟨q1, q2⟩ := QS_tb h.1.1 a
  have ph := Ph_s (σ := τ) (σ' := τ') (by rw [a.2.2.2.2.1])
  have zf := ZF_k h.2.2 q2
  obtain ⟨⟨h1', h2', h3, h4, h5, h6⟩, k2, _⟩ := h
  refine ⟨⟨q1, ZK_t h2' (ZK_of q2) h1 h5 h6, ⟨by omega, by omega⟩, h2, h5, h6⟩, fun i hi => ?_, zf⟩
  rw [(q2.2.2.2.2.2.1 (szB + i) (by omega)).1]
  exact k2 i hi
theorem c_newSlots {k0 : Nat} (h : Zy T n b u al σ0 nc0 sz0 mk0 a1 a2 tb o q v mk w st lo qh szB cs τ) (hu : u < 42) (hw : w + k0 < 2147483648) (hb : L.2.2.1 0 = b) (h1 : L.1 1 = nI u) (h2 : L.1 2 = nI k0) : Tm (fun k => y_X7_newSlots__P k 0 L τ) (fun r => r.1 = nI w ∧ Zy T n b u al σ0 nc0 sz0 mk0 a1 a2 tb o q v mk (w + k0) st lo qh szB cs r.2) := by
  have i42 : ¬ (nI u < 0 ∨ 42 ≤ (nI u).toNatClampNeg) := u_in (by rw [u_n (by omega)]; omega) (by decide)
  have zf := h.2.2
  refine Tm_suc (fun k => by rw [y_X7_newSlots__P]) ?_
  rw [hb, h1, h2]
  refine Tm_chk i42 (Tm_chk i42 (Tm_chk i42 ?_))
  rw [n_cl (p := u) (by omega), zf.1, n_add hw]
  refine Tm_some ⟨?_, Zy_r h (Or.inr rfl) ⟨by rw [uA_r, upd_same], zf.2⟩⟩
  show (uA τ (pR18 b) u (nI (w + k0))).2.2.1 (pR18 b) u - nI k0 = nI w
  rw [uA_r, upd_same, n_sub (by omega) (by omega)]
  exact congrArg nI (by omega)
theorem c_chkS (h : QS T n b u al tb o q v mk 0 sz τ) (hu : u < 42) (h1 : L.1 1 = nI r0) (hr : r0 ≤ tb.length) : ∀ z : Fl Unit, ((∃ y, CkF T n tb r0 q v y ∧ z = Sum.inl y) ∨ ((tkK T n q = 26 ∧ (∀ j, r0 ≤ j → j < tb.length → ¬ (tb.getD j e0E).1 = tkS T n q) ∧ ¬ v = 60) ∧ z = Sum.inr ())) → Tm (fun k => f_X5_checkName k 0 L τ) (QPo b u tb.length sz mk z (fun _ _ τ' => QS T n b u al tb o q (v + 1) mk 0 sz τ') τ 0 0) := by
  have s0 := Sy_0 h
  have e3 : τ.1 4003 = nI u := h.2.2.2.2.1.2.1
  have i42 : ¬ (nI u < 0 ∨ 42 ≤ (nI u).toNatClampNeg) := u_in (by rw [u_n (by omega)]; omega) (by decide)
  have e7 := h.2.2.2.2.2.2.1
  intro z hz
  refine Tm_suc (fun k => by rw [f_X5_checkName]) ?_
  by_cases k26 : tkK T n q = 26
  · have okn : okN (tkS T n q) := (s0.1.1.1.2.2.2.2.2.2.2.2 k26).2
    have ky := (s0.1.1.1.2.2.2.2.2.2.2.2 k26).1
    refine Tm_yes ((lx_k (kk := 26) s0.1.1 (by decide)).2 k26) ?_
    refine Tm_suc (fun k => by rw [f_X5_checkName]) ?_
    refine Tm_oP (Sy_pp s0) ?_
    refine Tm_op (c_toldFrom (r0 := r0) (bs := tkS T n q) s0.1.1.2.2.2.1 rfl okn ky.1 ky.2 h1 hr) (fun r2 z2 => ?_)
    obtain ⟨e2, f2⟩ := z2
    rw [e2]
    by_cases kt : ∀ j, r0 ≤ j → j < tb.length → ¬ (tb.getD j e0E).1 = tkS T n q
    · refine Tm_yes (f2.2 kt) ?_
      refine Tm_suc (fun k => by rw [f_X5_checkName]) ?_
      refine Tm_oP (Sy_pp s0) ?_
      rw [e3]
      refine Tm_chk i42 ?_
      rw [n_cl (p := u) (by omega), e7.1]
      by_cases v60 : v = 60
      · refine Tm_no (by show ¬ nI v < nI 60; rw [n_lt (by omega) (by decide)]; omega) ?_
        have zn : z = Sum.inl (8, q) := by
          rcases hz with ⟨y, w1, w2⟩ | w
          · rcases w1 with ⟨a, _⟩ | ⟨_, a, _⟩ | ⟨_, _, _, a⟩
            · exact absurd k26 a
            · exact absurd kt a
            · rw [w2, a]
          · exact absurd v60 w.1.2.2
        rw [zn]
        exact st_ref s0.1 rfl (lx_3 s0.1.1) (by decide)
      · refine Tm_yes (by show nI v < nI 60; rw [n_lt (by omega) (by decide)]; omega) ?_
        have zs : z = Sum.inr () := by
          rcases hz with ⟨y, w1, w2⟩ | w
          · rcases w1 with ⟨a, _⟩ | ⟨_, a, _⟩ | ⟨_, _, a, _⟩
            · exact absurd k26 a
            · exact absurd kt a
            · exact absurd a v60
          · exact w.2
        rw [zs]
        refine Tm_suc (fun k => by rw [f_X5_checkName]) ?_
        refine Tm_oP (Sy_pp s0) ?_
        rw [e3]
        refine Tm_chk i42 (Tm_chk i42 ?_)
        rw [n_cl (p := u) (by omega), e7.1, n_add1]
        have s1 := Sy_v s0 (by omega)
        exact Tm_some (Qfin s1.1 s1.1.1)
    · refine Tm_no (fun w => kt (f2.1 w)) ?_
      have zn : z = Sum.inl (4, q) := by
        rcases hz with ⟨y, w1, w2⟩ | w
        · rcases w1 with ⟨a, _⟩ | ⟨_, _, a⟩ | ⟨_, a, _⟩
          · exact absurd k26 a
          · rw [w2, a]
          · exact absurd a kt
        · exact absurd w.1.2.1 kt
      rw [zn]
      exact st_ref s0.1 rfl (lx_3 s0.1.1) (by decide)
  · refine Tm_no (fun w => k26 ((lx_k (kk := 26) s0.1.1 (by decide)).1 w)) ?_
    have zn : z = Sum.inl (2, q) := by
      rcases hz with ⟨y, w1, w2⟩ | w
      · rcases w1 with ⟨_, a⟩ | ⟨a, _⟩ | ⟨a, _⟩
        · rw [w2, a]
        · exact absurd a k26
        · exact absurd a k26
      · exact absurd w.1.1 k26
    rw [zn]
    exact st_ref s0.1 rfl (lx_3 s0.1.1) (by decide)
theorem zt_chk {f' : Nat → RS → Option RS} (h : Zy T n b u al σ0 nc0 sz0 mk0 a1 a2 tb o q v mk w st lo qh szB cs τ) (hu : u < 42) (h1 : L.1 1 = nI r0) (hr : r0 ≤ tb.length) (hx : (∃ y, CkF T n tb r0 q v y ∧ x = Sum.inl y) ∨ ((tkK T n q = 26 ∧ (∀ j, r0 ≤ j → j < tb.length → ¬ (tb.getD j e0E).1 = tkS T n q) ∧ ¬ v = 60) ∧ C)) (cont : ∀ (τ' : CS) (ret : Int32) (n1 n2 : Nat), C → Zy T n b u al σ0 nc0 sz0 mk0 (a1 + n1) (a2 + n2) tb o q (v + 1) mk w st lo qh szB cs τ' → Tm (fun k => f' k ((0, ret), τ', (n1, n2))) (ZPo b u nc0 sz0 mk0 x S σ0 (a1 + n1) (a2 + n2))) : Tm (fun k => ox (f_X5_checkName k 0 L τ) (f' k)) (ZPo b u nc0 sz0 mk0 x S σ0 a1 a2) := by
  rcases hx with ⟨y0, w1, w2⟩ | ⟨w1, c⟩
  · exact zt_call (C := True) h (c_chkS h.1.1 hu h1 hr (Sum.inl y0) (Or.inl ⟨y0, w1, rfl⟩)) (Or.inl ⟨_, rfl, w2⟩)
  · exact zt_call (C := C) h (c_chkS h.1.1 hu h1 hr (Sum.inr ()) (Or.inr ⟨w1, rfl⟩)) (Or.inr ⟨_, rfl, c, fun τ' ret n1 n2 hq xk hc => cont τ' ret n1 n2 c (Zy_c0 h hq (ZK_of xk) hc h.1.2.2.2.1 h.1.2.2.2.2.2 (ZF_k h.2.2 xk))⟩)
theorem zt_name (h : Zy T n b u al σ0 nc0 sz0 mk0 a1 a2 tb o q v mk w st lo qh szB cs τ) (hu : u < 42) (hl : v < 60 → tb.length < 256) (hp : w ≤ 1000) (l1 : L.1 1 = nI r0) (hr : r0 ≤ tb.length) (l3 : L.1 3 = 1) (l4 : L.1 4 = 1) (l5 : uN (L.1 5) ≤ 60) (hx : (∃ y, NmQF T n tb r0 q v y ∧ x = Sum.inl y) ∨ (NmG T n tb r0 q v ∧ C)) (cont : ∀ (L' : LV) (τ' : CS) (m1 m2 : Nat), C → tkK T n q = 26 → L'.1 1 = L.1 1 → L'.1 2 = L.1 2 → L'.1 3 = 1 → L'.1 5 = L.1 5 → Zy T n b u al σ0 nc0 sz0 mk0 (a1 + m1) (a2 + m2) (tb ++ [(tkS T n q, 0, u, w, true)]) o (tkN T n q) (v + 1) mk (w + 1) st lo qh szB cs τ' → Tm (fun k => if L'.1 2 = 0 then f_X5_iterNames k 11 L' τ' else if τ'.1 3702 = 16 then f_X5_iterNames k 12 (lI L' 100 1) τ' else f_X5_iterNames k 11 L' τ') (ZPo b u nc0 sz0 mk0 x S σ0 (a1 + m1) (a2 + m2))) : Tm (fun k => f_X5_iterNames k 2 L τ) (ZPo b u nc0 sz0 mk0 x S σ0 a1 a2) := by
  have e3 : τ.1 4003 = nI u := h.1.1.2.2.2.2.1.2.1
  have i42 : ¬ (nI u < 0 ∨ 42 ≤ (nI u).toNatClampNeg) := u_in (by rw [u_n (by omega)]; omega) (by decide)
  have l30 : ¬ L.1 3 = 0 := by rw [l3]; decide
  refine Tm_suc (fun k => by rw [f_X5_iterNames]) ?_
  refine Tm_no (by rw [u_ltn (by decide) (by omega)]; show ¬ 60 < uN (L.1 5); omega) ?_
  refine Tm_no (by rw [l4]; decide) ?_
  have hx2 : (∃ y, CkF T n tb r0 q v y ∧ x = Sum.inl y) ∨ ((tkK T n q = 26 ∧ (∀ j, r0 ≤ j → j < tb.length → ¬ (tb.getD j e0E).1 = tkS T n q) ∧ ¬ v = 60) ∧ (tkK T n q = 26 ∧ (¬ v = 60) ∧ ((tkK T n (tkN T n q) = 0 ∧ x = Sum.inl (1, tkN T n q)) ∨ (¬ tkK T n (tkN T n q) = 0 ∧ C)))) := by
    rcases hx with ⟨y, w1 | ⟨w1, w3, w4⟩, w2⟩ | ⟨w1, w2⟩
    · exact Or.inl ⟨y, w1, w2⟩
    · exact Or.inr ⟨w1, w1.1, w1.2.2, Or.inl ⟨w3, by rw [w2, w4]⟩⟩
    · exact Or.inr ⟨⟨w1.1, w1.2.1, w1.2.2.1⟩, w1.1, w1.2.2.1, Or.inr ⟨w1.2.2.2, w2⟩⟩
  refine zt_chk h hu l1 hr hx2 (fun τ1 ret1 m1 m2 c1 s1 => ?_)
  obtain ⟨k26, v60, c1⟩ := c1
  have hl := hl (by have := h.1.1.2.2.2.2.2.2.1.2; omega)
  have e31 : τ1.1 4003 = nI u := s1.1.1.2.2.2.2.1.2.1
  refine Tm_oP (Zy_pp s1) ?_
  show Tm (fun k => if ¬ (τ1.1 4003 < 0 ∨ 42 ≤ (τ1.1 4003).toNatClampNeg) then _ else none) _
  rw [e31]
  refine Tm_chk i42 ?_
  refine Tm_no l30 ?_
  refine Tm_suc (fun k => by rw [f_X5_iterNames]) ?_
  refine Tm_chk i42 ?_
  refine Tm_no l30 ?_
  have s1' : Zy T n b u al σ0 nc0 sz0 mk0 (a1 + m1) (a2 + m2) tb o q (v + 1) mk w st lo qh szB cs (uA τ1 (pR17 b) u (τ1.2.2.1 (pR17 b) u + 1)) := by
    have pc2 := pR18_c b
    exact Zy_r s1 (Or.inl rfl) (ZF_e s1.2.2 (fun _ _ => rfl) (by rw [uA_k (by omega)]) rfl)
  show Tm (fun k => oP (sPp (uA τ1 (pR17 b) (nI u).toNatClampNeg (τ1.2.2.1 (pR17 b) (nI u).toNatClampNeg + 1))) (fun b3 => op (y_X7_newSlots__P k 0 (lI (lI (lB lZ 0 b3) 1 (τ1.1 4003)) 2 1) (uA τ1 (pR17 b) (nI u).toNatClampNeg (τ1.2.2.1 (pR17 b) (nI u).toNatClampNeg + 1))) (fun r4 => f_X5_iterNames k 8 (lI (lB (lI (lI (lI L 100 1) 101 (τ1.2.2.1 (pR17 b) (nI u).toNatClampNeg)) 102 (nI u)) 103 b) 100 r4.1) r4.2))) _
  rw [n_cl (p := u) (by omega)]
  refine Tm_oP (Zy_pp s1') ?_
  have ns1 := c_newSlots (L := lI (lI (lB lZ 0 b) 1 (τ1.1 4003)) 2 1) (k0 := 1) s1' hu (by omega) rfl e31 rfl
  refine Tm_op ns1 (fun r2 z2 => ?_)
  obtain ⟨er2, s2⟩ := z2
  refine Tm_suc (fun k => by rw [f_X5_iterNames]) ?_
  refine Tm_oP (Zy_pp s2) ?_
  refine Tm_no l30 ?_
  refine Tm_suc (fun k => by rw [f_X5_iterNames]) ?_
  have okn : okN (tkS T n q) := (s2.1.1.1.2.2.2.2.2.2.2.2 k26).2
  have ky := (s2.1.1.1.2.2.2.2.2.2.2.2 k26).1
  refine Tm_op (c_tell (bs := tkS T n q) (w0 := 0) (o0 := u) (s0 := w) s2.1.1.2.2.2.1 hl rfl okn ky.1 ky.2 rfl s2.1.1.2.2.2.2.1.2.1 er2) (fun r3 z3 => ?_)
  have nc := h.1.2.2.2.1
  have s3 := Zy_tb s2 z3 nc (by rw [List.length_append]; omega)
  refine Tm_oP (Zy_pp s3) (Tm_oP (Zy_pp s3) ?_)
  have e11 : r3.2.1 (fP b 11) - 1 = nI tb.length := by
    rw [s3.1.1.2.2.2.1.1, List.length_append]
    exact n_sub1 (by omega)
  rw [e11]
  refine Tm_chk (u_in (by rw [u_n (by omega)]; omega) (by decide)) ?_
  rw [n_cl (p := tb.length) (by omega), show vp_nar .boolean 1 = (1 : Int32) from rfl]
  have ho : TbQ b tb.length ((tb ++ [(tkS T n q, 0, u, w, false)]).set tb.length (tkS T n q, 0, u, w, true)) r3.2 (uA r3.2 (pR10 b) tb.length 1) := TbQ_hd (e1 := (tkS T n q, 0, u, w, false)) (hd := true) s3.1.1.2.2.2.1 (by rw [List.length_append]; show tb.length < tb.length + 1; omega) (Nat.le_refl _) gE_0
  have es : (tb ++ [(tkS T n q, 0, u, w, false)]).set tb.length (tkS T n q, 0, u, w, true) = tb ++ [(tkS T n q, 0, u, w, true)] := by
    rw [List.set_append_right _ _ (Nat.le_refl _), Nat.sub_self]; rfl
  rw [es] at ho
  have s4 := Zy_tb s3 ho nc (by rw [List.length_append]; omega)
  refine zt_adv s4 c1 (fun τ5 ret5 m3 m4 c5 s5 xk5 => ?_)
  rw [Nat.add_assoc a1 m1 m3, Nat.add_assoc a2 m2 m4] at s5 ⊢
  exact cont _ τ5 _ _ c5 k26 rfl rfl l3 rfl s5
end CYB
end JnS512
section JnS513
/-! The class: names of a for's iter, one or many. -/
section CYC
variable {σ σ' σ0 τ τ' τ0 : CS} {L : LV} {b : Bool} {T : Nat → Int32} {n q q' u al o v mk mk' p sz sz' szB szE nc nc0 sz0 mk0 a1 a2 m kk f e s0 ow a t0 g D w st w' st' M nm deep vv np lp N Bd nb k d P h st0 b0 it q0 v0 r0 c : Nat} {y qh qh' y0 y1 wd x0 x1 x3 : Int32} {l l' cs cs' cs2 ll lt lt0 co bo : List Int32} {tb tb' es : List Ent} {ns : List Nm} {E : En} {gl : Nat × (Nat → Nat → Prop)} {Vm Vm' : Nat → Prop} {Pc : Nat → Nat → Prop} {MD : Nat → Nat → Nat} {md : Nat → Nat} {bt : BT} {ks qs qs' qa qb js qsI : List Nat} {lo lo' : Option Nat} {s : SB} {α : Type} {S : α → Int32 → CS → Prop} {x : Fl α} {C : Prop} {hd : Bool}
/-- names told, here and there -/
def NsF (u p : Nat) (hd : Bool) (es : List Ent) (ns : List Nm) : Prop := (∀ i, i < es.length → (es.getD i e0E).2 = (0, u, p + i, hd)) ∧ ∀ bs, (∃ nm, nm ∈ ns ∧ nm.1 = bs) ↔ ∃ i, i < es.length ∧ (es.getD i e0E).1 = bs
theorem NsF_nil (u p : Nat) (hd : Bool) : NsF u p hd [] [] := by
  refine ⟨fun i hi => absurd hi (Nat.not_lt_zero _), fun bs => ⟨fun z => ?_, fun z => ?_⟩⟩
  · obtain ⟨nm, z1, z2⟩ := z
    cases z1
  · obtain ⟨i, z1, z2⟩ := z
    exact absurd z1 (Nat.not_lt_zero _)
theorem NsF_ad {bs : List Int32} {pl sl : Nat} (h : NsF u p hd es ns) : NsF u p hd (es ++ [(bs, 0, u, p + es.length, hd)]) ((bs, pl, sl) :: ns) := by
  obtain ⟨h1, h2⟩ := h
  refine ⟨fun i hi => ?_, fun bs' => ?_⟩
  · rw [List.length_append] at hi
    have hi' : i < es.length + 1 := hi
    by_cases z : i = es.length
    · rw [z, gE_0]
    · rw [gE_l (by omega)]
      exact h1 i (by omega)
  · rw [List.length_append]
    constructor
    · rintro ⟨nm, m1, m2⟩
      rcases List.mem_cons.1 m1 with z | z
      · refine ⟨es.length, by show es.length < es.length + 1; omega, ?_⟩
        rw [gE_0, ← m2, z]
      · obtain ⟨i, i1, i2⟩ := (h2 bs').1 ⟨nm, z, m2⟩
        exact ⟨i, by show i < es.length + 1; omega, by rw [gE_l i1]; exact i2⟩
    · rintro ⟨i, i1, i2⟩
      have i1' : i < es.length + 1 := i1
      by_cases z : i = es.length
      · rw [z, gE_0] at i2
        exact ⟨_, List.mem_cons_self, i2⟩
      · rw [gE_l (by omega)] at i2
        obtain ⟨nm, m1, m2⟩ := (h2 bs').2 ⟨i, by omega, i2⟩
        exact ⟨nm, List.mem_cons_of_mem _ m1, m2⟩
theorem RwE_nf (h : RwE E c tb r0) (hr : r0 ≤ tb.length) (k : NsF u p hd es ns) : RwE (rowN E ns) c (tb ++ es) r0 := by
  obtain ⟨h1, h2⟩ := h
  have el : (rowN E ns).2.2.1 = ns ++ E.2.2.1 := rfl
  refine ⟨by rw [el, List.length_append]; omega, fun bs => ?_⟩
  have et : (rowN E ns).2.2.1.take ((rowN E ns).2.2.1.length - c) = ns ++ E.2.2.1.take (E.2.2.1.length - c) := by
    rw [el, List.length_append, show ns.length + E.2.2.1.length - c = ns.length + (E.2.2.1.length - c) by omega, List.take_length_add_append]
  rw [et, List.length_append]
  constructor
  · rintro ⟨nm, m1, m2⟩
    rcases List.mem_append.1 m1 with z | z
    · obtain ⟨i, i1, i2⟩ := (k.2 bs).1 ⟨nm, z, m2⟩
      exact ⟨tb.length + i, by omega, by omega, by rw [gE_r]; exact i2⟩
    · obtain ⟨j, j1, j2, j3⟩ := (h2 bs).1 ⟨nm, z, m2⟩
      exact ⟨j, j1, by omega, by rw [gE_l j2]; exact j3⟩
  · rintro ⟨j, j1, j2, j3⟩
    rcases Nat.lt_or_ge j tb.length with z | z
    · rw [gE_l z] at j3
      obtain ⟨nm, m1, m2⟩ := (h2 bs).2 ⟨j, j1, z, j3⟩
      exact ⟨nm, List.mem_append_right _ m1, m2⟩
    · have e1 : j = tb.length + (j - tb.length) := by omega
      rw [e1, gE_r] at j3
      obtain ⟨nm, m1, m2⟩ := (k.2 bs).2 ⟨j - tb.length, by omega, j3⟩
      exact ⟨nm, List.mem_append_left _ m1, m2⟩
theorem NmR_hf (h : NmR E u gl Vm tb) (k : NsF u p true es ns) : NmR (rowN E ns) u gl Vm (tb ++ es) := by
  refine ⟨h.1, fun bs ok => ⟨fun i lk => ?_, fun lk => ?_⟩⟩
  · obtain ⟨l1, l2, l3⟩ := lk
    rw [List.length_append] at l1 l3
    rcases Nat.lt_or_ge i tb.length with z | z
    · rw [gE_l z] at l2 ⊢
      refine (h.2 bs ok).1 i ⟨z, l2, fun j j1 j2 w => l3 j j1 (by omega) ?_⟩
      rw [gE_l j2]; exact w
    · exfalso
      have e1 : i = tb.length + (i - tb.length) := by omega
      rw [e1, gE_r] at l2
      have z2 := k.1 (i - tb.length) (by omega)
      rw [z2] at l2
      exact absurd (show true = false from l2.2) (by decide)
  · refine (h.2 bs ok).2 (fun j j1 w => lk j (by rw [List.length_append]; omega) ?_)
    rw [gE_l j1]; exact w
theorem NmR_sf (h : NmR E u gl Vm tb) (k : NsF u p false es ns) (hp : p + es.length ≤ 200) (hm : ∀ i, i < es.length → Vm' (500000 + (p + i))) (hV : ∀ i, Vm i → Vm' i) (hu : u < 42) : NmR (rowN (seeN E ns) ns) u gl Vm' (tb ++ es) := by
  refine ⟨h.1, fun bs ok => ⟨fun i lk => ?_, fun lk => ?_⟩⟩
  · obtain ⟨l1, l2, l3⟩ := lk
    rw [List.length_append] at l1 l3
    rcases Nat.lt_or_ge i tb.length with z | z
    · rw [gE_l z] at l2 ⊢
      have no : ¬ ∃ nm, nm ∈ ns ∧ nm.1 = bs := fun w => by
        obtain ⟨j, j1, j2⟩ := (k.2 bs).1 w
        refine l3 (tb.length + j) (by omega) (by omega) ?_
        rw [gE_r]
        refine ⟨j2, ?_⟩
        have z2 := k.1 j j1
        rw [z2]
      have lk2 : LkI tb bs i := ⟨z, l2, fun j j1 j2 w => l3 j j1 (by omega) (by rw [gE_l j2]; exact w)⟩
      exact EntR_m ((h.2 bs ok).1 i lk2) (fd_out no) rfl hV
    · have e1 : i = tb.length + (i - tb.length) := by omega
      have z2 := k.1 (i - tb.length) (by omega)
      rw [e1, gE_r] at l2 ⊢
      have fi : (fd (rowN (seeN E ns) ns) bs).1 = 1 := fd_in ((k.2 bs).2 ⟨i - tb.length, by omega, l2.1⟩)
      unfold EntR
      rw [z2]
      exact ⟨⟨Nat.zero_le 3, hu⟩, fun _ => ⟨fi, fun _ => ⟨by show p + (i - tb.length) < 200; omega, hm _ (by omega)⟩, fun z => absurd rfl z⟩, fun z => absurd (show 0 = 3 from z) (by decide), fun z => absurd (show 0 = 1 from z) (by decide), fun z => absurd (show 0 = 2 from z) (by decide)⟩
  · have no : ¬ ∃ nm, nm ∈ ns ∧ nm.1 = bs := fun w => by
      obtain ⟨j, j1, j2⟩ := (k.2 bs).1 w
      refine lk (tb.length + j) (by rw [List.length_append]; omega) ?_
      rw [gE_r]
      refine ⟨j2, ?_⟩
      have z2 := k.1 j j1
      rw [z2]
    show (fd (seeN E ns) bs).1 = 0
    rw [fd_out no]
    refine (h.2 bs ok).2 (fun j j1 w => lk j (by rw [List.length_append]; omega) ?_)
    rw [gE_l j1]; exact w
theorem NsF_see (k : NsF u p hd es ns) : NsF u p false (seeE es) ns := by
  refine ⟨fun i hi => ?_, fun bs => ?_⟩
  · rw [seeE_l] at hi
    rw [seeE_g hi, k.1 i hi]
  · rw [seeE_l]
    constructor
    · intro z
      obtain ⟨i, i1, i2⟩ := (k.2 bs).1 z
      exact ⟨i, i1, by rw [seeE_g i1]; exact i2⟩
    · rintro ⟨i, i1, i2⟩
      rw [seeE_g i1] at i2
      exact (k.2 bs).2 ⟨i, i1, i2⟩
/-- behind the names -/
def INF (T : Nat → Int32) (n : Nat) (b : Bool) (u al : Nat) (tb : List Ent) (o mk w sz q v st : Nat) (lo : Option Nat) (qh : Int32) (r : RT) (τ : CS) : Prop := ∃ es : List Ent, 1 ≤ es.length ∧ (QS T n b u al (tb ++ es) o r.1 r.2.1 mk 0 sz τ ∧ ZF b u (w + es.length) st lo qh τ) ∧ NsF u w true es r.2.2.2.2.2 ∧ r.2.1 = v + es.length ∧ q + 1 + 2 * r.2.2.1 ≤ r.1 ∧ ((r.2.2.1 = 0 ∧ es.length = 1 ∧ ¬ tkK T n q = 10) ∨ (r.2.2.1 = 1 ∧ tkK T n q = 10))
theorem c_iterNf {x : Fl RT} (h : QS T n b u al tb o q v mk 0 sz σ) (zf : ZF b u w st lo qh σ) (hu : u < 42) (hl : tb.length + (60 - v) ≤ 256) (hp : w ≤ 180) (l1 : L.1 1 = nI r0) (hr : r0 ≤ tb.length) (l2 : (tkK T n q = 10 → L.1 2 = 1) ∧ (¬ tkK T n q = 10 → L.1 2 = 0)) (l3 : L.1 3 = 1) (rw0 : RwE E c tb r0) (hG : gIn T n f E o c g q v bt = some x) : Tm (fun k => f_X5_iterNames k 0 L σ) (ZPo b u tb.length sz mk x (fun r _ τ => INF T n b u al tb o mk w sz q v st lo qh r τ) σ 0 0) := by
  have s0 := Zy_0 h zf
  have go := tk_go h
  have v60 := s0.1.1.2.2.2.2.2.2.1.2
  have nil0 : NsF u w true [] [] := NsF_nil u w true
  unfold gIn at hG
  by_cases k10 : tkK T n q = 10
  · rw [if_pos k10] at hG
    have g1 := go.2.2 (by omega)
    have l2' := l2.1 k10
    -- from behind a name on
    have lp : ∀ (f1 : Nat) (K : RT → RG) (E1 : En) (e2 : Nat), ∀ (L' : LV) (τ : CS) (a1 a2 q1 v1 i1 e1 : Nat) (bt1 : BT) (es : List Ent) (ns : List Nm), gb (G T n f1 18 E1 (o + 1) q1 v1 i1 e1 c g bt1) K = some x → (∀ (q v : Nat) (bt : BT) (rs : List Nm), K (q, v, 0, 0, bt, rs) = gW T n 11 q (fun q3 => some (Sum.inr (q3, v, 1, e2, bt, rs ++ ns)))) → L'.1 1 = nI r0 → L'.1 2 = 1 → L'.1 3 = 1 → 1 ≤ es.length → L'.1 5 = nI (es.length - 1) → Zy T n b u al σ tb.length sz mk a1 a2 (tb ++ es) (o + 1) q1 v1 mk (w + es.length) st lo qh sz [] τ → NsF u w true es ns → RwE E1 c (tb ++ es) r0 → v1 = v + es.length → q + 2 ≤ q1 → Tm (fun k => if L'.1 2 = 0 then f_X5_iterNames k 11 L' τ else if τ.1 3702 = 16 then f_X5_iterNames k 12 (lI L' 100 1) τ else f_X5_iterNames k 11 L' τ) (ZPo b u tb.length sz mk x (fun r _ τ => INF T n b u al tb o mk w sz q v st lo qh r τ) σ a1 a2) := by
      intro f1
      induction f1 with
      | zero =>
        intro K E1 e2 L' τ a1 a2 q1 v1 i1 e1 bt1 es ns hg
        exact absurd hg (by intro z; cases z)
      | succ f1 ih =>
        intro K E1 e2 L' τ a1 a2 q1 v1 i1 e1 bt1 es ns hg hK l1 l2 l3 le1 l5 s1 nr rw1 ev lq
        have go1 := tk_go s1.1.1
        have vv := s1.1.1.2.2.2.2.2.2.1.2
        have e18 : G T n (f1 + 1) 18 E1 (o + 1) q1 v1 i1 e1 c g bt1 = (if tkK T n q1 = 12 then gT T n q1 (fun q1 => gN T n E1 c g q1 v1 bt1 (fun q2 v2 e2 b2 nm => gb (G T n f1 18 (rowN E1 [nm]) (o + 1) q2 v2 0 e2 c g (bSet b2 9 e1 (nI e2))) (fun r => some (Sum.inr (r.1, r.2.1, 0, 0, r.2.2.2.2.1, r.2.2.2.2.2 ++ [nm]))))) else some (Sum.inr (q1, v1, 0, 0, bt1, []))) := rfl
        rw [e18] at hg
        have la : (tb ++ es).length = tb.length + es.length := List.length_append
        refine Tm_no (by rw [l2]; decide) ?_
        by_cases k12 : tkK T n q1 = 12
        · rw [if_pos k12, gb_gT] at hg
          simp only [gb_gN, gb_gb] at hg
          have g2 := go1.2.2 (by omega)
          refine Tm_yes ((lx_k (kk := 12) s1.1.1 (by decide)).2 k12) ?_
          refine Tm_suc (fun k => by rw [f_X5_iterNames]) ?_
          refine Tm_no (by show ¬ (1 : Int32) = 0; decide) ?_
          refine zt_adv s1 (gT_any hg) (fun τ2 ret2 j1 j2 c2 s2 xk2 => ?_)
          refine Tm_suc (fun k => by rw [f_X5_iterNames]) ?_
          have go2 := tk_go s2.1.1
          refine zt_name (r0 := r0) s2 hu (fun z => by rw [la]; omega) (by omega) l1 (by rw [la]; omega) l3 rfl ?_ (gN_a rw1 c2) (fun L3 τ3 m1 m2 c3 k26 y1 y2 y3 y5 s3 => ?_)
          · show uN (L'.1 5 + 1) ≤ 60
            rw [l5, n_add1, u_n (by omega)]
            omega
          · obtain ⟨e3, b3, pl, c3⟩ := c3
            have ea : tb ++ es ++ [(tkS T n (tkN T n q1), 0, u, w + es.length, true)] = tb ++ (es ++ [(tkS T n (tkN T n q1), 0, u, w + es.length, true)]) := List.append_assoc _ _ _
            have lb : (es ++ [(tkS T n (tkN T n q1), 0, u, w + es.length, true)]).length = es.length + 1 := List.length_append
            rw [ea] at s3
            have nr2 := NsF_ad (bs := tkS T n (tkN T n q1)) (pl := pl) (sl := v1) nr
            have rw2 : RwE (rowN E1 [(tkS T n (tkN T n q1), pl, v1)]) c (tb ++ (es ++ [(tkS T n (tkN T n q1), 0, u, w + es.length, true)])) r0 := by
              rw [← ea]
              have nr1 := NsF_ad (u := u) (p := w + es.length) (bs := tkS T n (tkN T n q1)) (pl := pl) (sl := v1) (hd := true) (es := []) (ns := []) (NsF_nil _ _ _)
              exact RwE_nf rw1 (by rw [la]; omega) nr1
            have g3 : tkN T n q1 < tkN T n (tkN T n q1) ∨ True := Or.inr trivial
            have nb := (tkN_b T n (tkN T n q1) go1.2.1).1
            refine ih (fun r => gb (some (Sum.inr (r.1, r.2.1, 0, 0, r.2.2.2.2.1, r.2.2.2.2.2 ++ [(tkS T n (tkN T n q1), pl, v1)]))) K) (rowN E1 [(tkS T n (tkN T n q1), pl, v1)]) e2 L3 τ3 _ _ _ _ _ _ _ (es ++ [(tkS T n (tkN T n q1), 0, u, w + es.length, true)]) ((tkS T n (tkN T n q1), pl, v1) :: ns) c3 (fun q v bt rs => ?_) (by rw [y1]; exact l1) (by rw [y2]; exact l2) y3 (by rw [lb]; omega) ?_ (by rw [lb]; exact s3) nr2 rw2 (by rw [lb]; omega) (by omega)
            · show K (q, v, 0, 0, bt, rs ++ [(tkS T n (tkN T n q1), pl, v1)]) = _
              rw [hK]
              have e9 : rs ++ [(tkS T n (tkN T n q1), pl, v1)] ++ ns = rs ++ ((tkS T n (tkN T n q1), pl, v1) :: ns) := by rw [List.append_assoc]; rfl
              rw [e9]
            · rw [y5, lb]
              show L'.1 5 + 1 = _
              rw [l5, n_add1]
              exact congrArg nI (by omega)
        · rw [if_neg k12] at hg
          have hg2 : K (q1, v1, 0, 0, bt1, []) = some x := hg
          rw [hK] at hg2
          refine Tm_no (fun z => k12 ((lx_k (kk := 12) s1.1.1 (by decide)).1 z)) ?_
          refine Tm_suc (fun k => by rw [f_X5_iterNames]) ?_
          refine Tm_suc (fun k => by rw [f_X5_iterNames]) ?_
          refine Tm_yes (by show (0 : Int32) = 0; rfl) ?_
          refine Tm_suc (fun k => by rw [f_X5_iterNames]) ?_
          refine Tm_suc (fun k => by rw [f_X5_iterNames]) ?_
          refine Tm_no (by show ¬ (60 : Int32) < L'.1 5 + 1; rw [l5, n_add1]; show ¬ nI 60 < _; rw [n_lt (by decide) (by omega)]; omega) ?_
          refine Tm_yes rfl ?_
          refine Tm_suc (fun k => by rw [f_X5_iterNames]) ?_
          refine Tm_no (by show ¬ L'.1 2 = 0; rw [l2]; decide) ?_
          refine zt_closes (kk := 11) s1 (by decide) rfl (gW_a3 hg2) (fun τ3 ret3 m1 m2 c3 s3 xk3 => ?_)
          obtain ⟨k11, c3⟩ := c3
          have g3 := go1.2.2 (by omega)
          refine Tm_suc (fun k => by rw [f_X5_iterNames]) ?_
          rw [← Option.some.inj c3]
          refine Tm_some (Zfin s3 ⟨es, le1, ⟨s3.1.1, s3.2.2⟩, nr, ev, ?_, Or.inr ⟨rfl, k10⟩⟩)
          show q + 1 + 2 * 1 ≤ tkN T n q1
          omega
    refine Tm_suc (fun k => by rw [f_X5_iterNames]) ?_
    refine Tm_no (by rw [l2']; decide) ?_
    have hop : (¬ (¬ o = 20 ∧ ¬ tkK T n (tkN T n q) = 0) ∧ x = Sum.inl (oF T n o q)) ∨ ((¬ o = 20 ∧ ¬ tkK T n (tkN T n q) = 0) ∧ gN T n E c g (tkN T n q) v bt (fun q2 v2 e2 b2 nm => gb (G T n f 18 (rowN E [nm]) (o + 1) q2 v2 0 e2 c g b2) (fun r => gW T n 11 r.1 (fun q3 => some (Sum.inr (q3, r.2.1, 1, e2, r.2.2.2.2.1, r.2.2.2.2.2 ++ [nm]))))) = some x) := by
      rcases gO_any hG with ⟨w1, w2⟩ | ⟨w1, w2⟩
      · exact Or.inl ⟨fun z => z.1 w1, oF_a w1 w2⟩
      · rcases gT_any w2 with ⟨w3, w4⟩ | ⟨w3, w4⟩
        · exact Or.inl ⟨fun z => z.2 w3, oF_b w1 w4⟩
        · exact Or.inr ⟨⟨w1, w3⟩, w4⟩
    refine zt_opens s0 hop (fun τ1 ret n1 n2 c1 s1 xk1 => ?_)
    refine Tm_suc (fun k => by rw [f_X5_iterNames]) ?_
    have go1 := tk_go s1.1.1
    refine zt_name (r0 := r0) s1 hu (fun z => by omega) (by omega) l1 hr l3 rfl (by show uN 0 ≤ 60; decide) (gN_a rw0 c1) (fun L3 τ3 m1 m2 c3 k26 y1 y2 y3 y5 s3 => ?_)
    obtain ⟨e3, b3, pl, c3⟩ := c3
    have nr1 := NsF_ad (u := u) (p := w) (bs := tkS T n (tkN T n q)) (pl := pl) (sl := v) (hd := true) nil0
    have g3 := go1.2.2 (by omega)
    exact lp f (fun r => gW T n 11 r.1 (fun q3 => some (Sum.inr (q3, r.2.1, 1, e3, r.2.2.2.2.1, r.2.2.2.2.2 ++ [(tkS T n (tkN T n q), pl, v)])))) (rowN E [(tkS T n (tkN T n q), pl, v)]) e3 L3 τ3 _ _ _ _ _ _ _ [(tkS T n (tkN T n q), 0, u, w, true)] [(tkS T n (tkN T n q), pl, v)] c3 (fun _ _ _ _ => rfl) (by rw [y1]; exact l1) (by rw [y2]; exact l2') y3 (Nat.le_refl _) (by rw [y5]; rfl) s3 nr1 (RwE_nf rw0 hr nr1) rfl (by omega)
  · rw [if_neg k10] at hG
    have l2' := l2.2 k10
    refine Tm_suc (fun k => by rw [f_X5_iterNames]) ?_
    refine Tm_yes l2' ?_
    refine Tm_suc (fun k => by rw [f_X5_iterNames]) ?_
    refine zt_name (r0 := r0) s0 hu (fun z => by omega) (by omega) l1 hr l3 rfl (by show uN 0 ≤ 60; decide) (gN_a rw0 hG) (fun L3 τ3 m1 m2 c3 k26 y1 y2 y3 y5 s3 => ?_)
    obtain ⟨e3, b3, pl, c3⟩ := c3
    have nr1 := NsF_ad (u := u) (p := w) (bs := tkS T n q) (pl := pl) (sl := v) (hd := true) nil0
    have g3 := go.2.2 (by omega)
    refine Tm_yes (by rw [y2]; exact l2') ?_
    refine Tm_suc (fun k => by rw [f_X5_iterNames]) ?_
    refine Tm_suc (fun k => by rw [f_X5_iterNames]) ?_
    refine Tm_yes rfl ?_
    refine Tm_suc (fun k => by rw [f_X5_iterNames]) ?_
    refine Tm_suc (fun k => by rw [f_X5_iterNames]) ?_
    refine Tm_no (by show ¬ (60 : Int32) < L3.1 5 + 1; rw [y5]; show ¬ (60 : Int32) < 0 + 1; decide) ?_
    refine Tm_yes rfl ?_
    refine Tm_suc (fun k => by rw [f_X5_iterNames]) ?_
    refine Tm_yes (by show L3.1 2 = 0; rw [y2]; exact l2') ?_
    refine Tm_suc (fun k => by rw [f_X5_iterNames]) ?_
    rw [← Option.some.inj c3]
    refine Tm_some (Zfin s3 ⟨[(tkS T n q, 0, u, w, true)], Nat.le_refl _, ⟨s3.1.1, s3.2.2⟩, nr1, rfl, ?_, Or.inl ⟨rfl, rfl, k10⟩⟩)
    show q + 1 + 2 * 0 ≤ tkN T n q
    omega
theorem zt_store {k0 c0 : Nat} {f' : Nat → RS → Option RS} (h : Zy T n b u al σ0 nc0 sz0 mk0 a1 a2 tb o q v mk w st lo qh szB cs τ) (h1 : L.1 1 = nI k0) (h2 : L.1 2 = nI c0) (h3 : L.1 3 = 1) (hc : c0 < 1000) (hm : szB + cs.length + 2 ≤ 36864) (cont : ∀ (τ' : CS) (ret : Int32) (m1 m2 : Nat), Zy T n b u al σ0 nc0 sz0 mk0 (a1 + m1) (a2 + m2) tb o q v mk w st lo qh szB (cs ++ (if c0 = 0 then [em 71 (nI k0)] else [em 72 (nI k0), nI c0])) τ' → XK b u tb.length (szB + cs.length) mk τ τ' → Tm (fun k => f' k ((0, ret), τ', (m1, m2))) (ZPo b u nc0 sz0 mk0 x S σ0 (a1 + m1) (a2 + m2))) : Tm (fun k => ox (f_X5_iterStore k 0 L τ) (f' k)) (ZPo b u nc0 sz0 mk0 x S σ0 a1 a2) := by
  have s0 := Sy_0 h.1.1
  have l30 : ¬ L.1 3 = 0 := by rw [h3]; decide
  have t : Tm (fun k => f_X5_iterStore k 0 L τ) (QPo b u tb.length (szB + cs.length) mk (Sum.inr ()) (fun _ _ τ' => QS T n b u al tb o q v mk 0 (szB + cs.length + (if c0 = 0 then [em 71 (nI k0)] else [em 72 (nI k0), nI c0]).length) τ' ∧ ∀ i, i < (if c0 = 0 then [em 71 (nI k0)] else [em 72 (nI k0), nI c0]).length → cdr b τ' (szB + cs.length + i) = (if c0 = 0 then [em 71 (nI k0)] else [em 72 (nI k0), nI c0]).getD i 0) τ 0 0) := by
    refine Tm_suc (fun k => by rw [f_X5_iterStore]) ?_
    rw [h2]
    by_cases z : c0 = 0
    · rw [if_pos z]
      refine Tm_yes (by rw [z]; rfl) ?_
      refine Tm_oP (Sy_pp s0) ?_
      refine Tm_no l30 ?_
      refine Tm_suc (fun k => by rw [f_X5_iterStore]) ?_
      refine st_emit (op := 71) s0 rfl rfl (by show szB + cs.length + 0 + 1 ≤ _; omega) (fun τ2 m1 m2 s2 => ?_)
      refine Tm_suc (fun k => by rw [f_X5_iterStore]) ?_
      have s2' : Sy T n b u al τ tb.length (szB + cs.length) mk (0 + m1) (0 + m2) tb o q v mk 0 (szB + cs.length) [em 71 (nI k0)] τ2 := by
        rw [← h1]; exact s2
      exact Tm_some (Qfin s2'.1 ⟨s2'.1.1, s2'.2⟩)
    · rw [if_neg z]
      refine Tm_no (by rw [n_eq0 (by omega)]; exact z) ?_
      refine Tm_suc (fun k => by rw [f_X5_iterStore]) ?_
      refine Tm_oP (Sy_pp s0) ?_
      refine Tm_no l30 ?_
      refine Tm_suc (fun k => by rw [f_X5_iterStore]) ?_
      refine st_emit (op := 72) s0 rfl rfl (by show szB + cs.length + 0 + 1 ≤ _; omega) (fun τ2 m1 m2 s2 => ?_)
      refine Tm_oP (Sy_pp s2) ?_
      refine st_word s2 rfl (by show szB + cs.length + 1 + 1 ≤ _; omega) (fun τ3 m3 m4 s3 => ?_)
      refine Tm_suc (fun k => by rw [f_X5_iterStore]) ?_
      have s3' : Sy T n b u al τ tb.length (szB + cs.length) mk (0 + m1 + m3) (0 + m2 + m4) tb o q v mk 0 (szB + cs.length) [em 72 (nI k0), nI c0] τ3 := by
        rw [← h1, ← h2]; exact s3
      exact Tm_some (Qfin s3'.1 ⟨s3'.1.1, s3'.2⟩)
  exact zt_call (C := True) h t (Or.inr ⟨(), rfl, trivial, fun τ' ret n1 n2 hq xk hc => cont τ' ret n1 n2 (Zy_cl h hq.1 xk hc hq.2 h.1.2.2.2.1 h.1.2.2.2.2.2) xk⟩)
end CYC
end JnS513
section JnS514
/-! The class: iters of fors, what is wanted. -/
section CYD
variable {σ σ' σ0 τ τ' τ0 : CS} {L : LV} {b : Bool} {T : Nat → Int32} {n q q' u al o v mk mk' p sz sz' szB szE nc nc0 sz0 mk0 a1 a2 m kk f e s0 ow a t0 g D w st w' st' M nm deep vv np lp N Bd nb k d P h st0 b0 it q0 v0 r0 c : Nat} {y qh qh' y0 y1 wd x0 x1 x3 : Int32} {l l' cs cs' cs2 ll lt lt0 co bo : List Int32} {tb tb' es : List Ent} {ns : List Nm} {E : En} {gl : Nat × (Nat → Nat → Prop)} {Vm Vm' : Nat → Prop} {Pc : Nat → Nat → Prop} {MD : Nat → Nat → Nat} {md : Nat → Nat} {bt : BT} {ks qs qs' qa qb js qsI : List Nat} {lo lo' : Option Nat} {s : SB} {α : Type} {S : α → Int32 → CS → Prop} {x : Fl α} {C : Prop} {hd : Bool}
/-- the names of an iter are to be seen -/
theorem zt_see {x : Fl α} {R4 : Nat → Int32} {e : Nat} (es : List Ent) (hl : (tb ++ es).length ≤ 256) (cont : ∀ (L' : LV) (τ' : CS), (∀ j, ¬ j = 13 → L'.1 j = L.1 j) → L'.2 = L.2 → Zy T n b u al σ0 nc0 sz0 mk0 a1 a2 (tb ++ seeE es) o q v mk w st lo qh szB cs τ' → τ'.2.2.1 41 = R4 → Tm (fun k => f_F2 k (e + 1) 5 18 L' τ') (ZPo b u nc0 sz0 mk0 x S σ0 a1 a2)) (hnc : nc0 ≤ tb.length) : ∀ (d i : Nat) (L' : LV) (τ : CS), i + d = es.length → L'.1 13 = nI (tb.length + i) → (∀ j, ¬ j = 13 → L'.1 j = L.1 j) → L'.2 = L.2 → Zy T n b u al σ0 nc0 sz0 mk0 a1 a2 (tb ++ (seeE (es.take i) ++ es.drop i)) o q v mk w st lo qh szB cs τ → τ.2.2.1 41 = R4 → Tm (fun k => f_F2 k (e + 1) 5 17 L' τ) (ZPo b u nc0 sz0 mk0 x S σ0 a1 a2) := by
  intro d
  rw [List.length_append] at hl
  have lg : ∀ i, i ≤ es.length → (tb ++ (seeE (es.take i) ++ es.drop i)).length = tb.length + es.length := fun i hi => by
    rw [List.length_append, List.length_append, seeE_l, List.length_take, List.length_drop]
    omega
  induction d with
  | zero =>
    intro i L' τ hi l13 lj lL s1 r4
    have e11 := s1.1.1.2.2.2.1.1
    rw [lg i (by omega)] at e11
    refine Tm_suc (fun k => it_17 k _ _ _) ?_
    refine Tm_oP (Zy_pp s1) ?_
    rw [e11, l13]
    refine Tm_yes (by rw [n_le (by omega) (by omega)]; omega) ?_
    have ei : i = es.length := by omega
    rw [ei, List.take_length, List.drop_length, List.append_nil] at s1
    exact cont L' τ lj lL s1 r4
  | succ d ih =>
    intro i L' τ hi l13 lj lL s1 r4
    have e11 := s1.1.1.2.2.2.1.1
    rw [lg i (by omega)] at e11
    refine Tm_suc (fun k => it_17 k _ _ _) ?_
    refine Tm_oP (Zy_pp s1) ?_
    rw [e11, l13]
    refine Tm_no (by rw [n_le (by omega) (by omega)]; omega) ?_
    refine Tm_oP (Zy_pp s1) ?_
    refine Tm_chk (u_in (by rw [u_n (by omega)]; omega) (by decide)) ?_
    rw [n_cl (p := tb.length + i) (by omega), show vp_nar .boolean 0 = (0 : Int32) from rfl]
    have ho := TbQ_hd (nc := tb.length) (e1 := es.getD i e0E) (hd := false) s1.1.1.2.2.2.1 (i := tb.length + i) (by rw [lg i (by omega)]; omega) (by omega) (see_gd tb es i (by omega))
    rw [see_set tb es i (by omega)] at ho
    have s2 := Zy_tb s1 ho hnc (by rw [lg (i + 1) (by omega)]; omega)
    refine ih (i + 1) _ _ (by omega) ?_ ?_ ?_ s2 ?_
    · show nI (tb.length + i) + 1 = _
      rw [n_add1]; rfl
    · intro j hj
      show upd L'.1 13 _ j = _
      rw [upd_other hj]
      exact lj j hj
    · exact lL
    · show (uA τ (pR10 b) (tb.length + i) 0).2.2.1 41 = R4
      rw [uA_k (by have := pR_c b; omega)]; exact r4
/-- an exp of an iter -/
theorem zt_exp4 {f e : Nat} {f' : Nat → RS → Option RS} {bt : BT} {z : Fl RT} (h : Zy T n b u al σ0 nc0 sz0 mk0 a1 a2 tb o q v mk w st lo qh szB cs τ) (ev : EvX E b u al gl Vm tb τ) (bd : BdX n o q v mk 0 (szB + cs.length) tb.length) (h1 : L.1 1 = nI 4) (hd : 6 * (20 - o) + 8 ≤ e) (hG : G T n f 6 E o q v 0 0 0 0 bt = some z) (hx : (∃ ye, z = Sum.inl ye ∧ x = Sum.inl ye) ∨ ∃ s, z = Sum.inr s ∧ C) (cont : ∀ (τ' : CS) (ret : Int32) (n1 n2 : Nat) (r : RT) (ll : List Int32), z = Sum.inr r → C → Zy T n b u al σ0 nc0 sz0 mk0 (a1 + n1) (a2 + n2) tb o r.1 r.2.1 mk w st lo qh szB (cs ++ ll) τ' → XK b u tb.length (szB + cs.length) mk τ τ' → Sgm u 0 gl Vm 1 ll → 2 * ll.length ≤ 3 * (r.1 - q) + 1 → q < r.1 → v ≤ r.2.1 → Tm (fun k => f' k ((0, ret), τ', (n1, n2))) (ZPo b u nc0 sz0 mk0 x S σ0 (a1 + n1) (a2 + n2))) : Tm (fun k => ox (f_F2 k e 1 0 L τ) (f' k)) (ZPo b u nc0 sz0 mk0 x S σ0 a1 a2) := by
  refine zt_call (C := C) h (px_all f e 6 4 (Or.inr ⟨rfl, rfl⟩) E o q v bt z hG gl Vm tb mk 0 (szB + cs.length) τ L h.1.1 ev bd h1 hd) ?_
  rcases hx with ⟨w1, w2⟩ | ⟨s, w1, c⟩
  · exact Or.inl ⟨w1, w2⟩
  · refine Or.inr ⟨s, w1, c, fun τ' ret n1 n2 hr xk hc => ?_⟩
    obtain ⟨ll, r1, r2, r3, r4, r5, r6, r7⟩ := hr
    exact cont τ' ret n1 n2 s ll w1 c (Zy_cl h r1 xk hc r2 h.1.2.2.2.1 h.1.2.2.2.2.2) xk r3 r4 r5 r6
/-- marks that hold within a for -/
def VmX (Vm : Nat → Prop) (xm : List Nat) (i : Nat) : Prop := Vm i ∨ (i ∈ xm ∧ 500000 ≤ i ∧ ∀ s, i = 500000 + s → ¬ s ∈ xm)
theorem VmX_mo {xm : List Nat} {Wc cnt i : Nat} (kx : ∀ i, i ∈ xm → i < bsl ∧ w ≤ i % 500000 ∧ i % 500000 < Wc) (hq : Wc + cnt + 2 ≤ 200) (h : VmX Vm xm i) : VmX Vm (vmL Wc cnt ++ (Wc + cnt) :: xm) i := by
  have bs : bsl = 1000000 := rfl
  rcases h with z | ⟨z1, z2, z3⟩
  · exact Or.inl z
  · have k := kx i z1
    refine Or.inr ⟨List.mem_append_right _ (List.mem_cons_of_mem _ z1), z2, fun s e m => ?_⟩
    rcases List.mem_append.1 m with y | y
    · rw [vmL_m] at y; omega
    · rcases List.mem_cons.1 y with t | t
      · omega
      · exact z3 s e t
theorem VmX_nw {xm : List Nat} {Wc cnt j : Nat} (kx : ∀ i, i ∈ xm → i < bsl ∧ w ≤ i % 500000 ∧ i % 500000 < Wc) (hq : Wc + cnt + 2 ≤ 200) (h : j < cnt) : VmX Vm (vmL Wc cnt ++ (Wc + cnt) :: xm) (500000 + (Wc + j)) := by
  refine Or.inr ⟨List.mem_append_left _ ((vmL_m cnt _).2 ⟨by omega, by omega⟩), by omega, fun s e m => ?_⟩
  rcases List.mem_append.1 m with y | y
  · rw [vmL_m] at y; omega
  · rcases List.mem_cons.1 y with t | t
    · omega
    · have k := kx s t; omega
/-- marks for the FOR_CLEARs -/
def mkF3 : List (Nat × Nat × Nat) → List Int32
  | [] => []
  | e :: l => nI e.1 :: nI e.2.1 :: nI e.2.2 :: mkF3 l
theorem mkF3_l : ∀ l : List (Nat × Nat × Nat), (mkF3 l).length = 3 * l.length
  | [] => rfl
  | e :: l => by
    show (mkF3 l).length + 1 + 1 + 1 = 3 * (l.length + 1)
    rw [mkF3_l l]; omega
theorem mkF3_a : ∀ (l : List (Nat × Nat × Nat)) (e : Nat × Nat × Nat), mkF3 (l ++ [e]) = mkF3 l ++ [nI e.1, nI e.2.1, nI e.2.2]
  | [], _ => rfl
  | a :: l, e => by
    show nI a.1 :: nI a.2.1 :: nI a.2.2 :: mkF3 (l ++ [e]) = _
    rw [mkF3_a l e]; rfl
/-- behind the iters of a for -/
def FtR (T : Nat → Int32) (n : Nat) (b : Bool) (u al : Nat) (gl : Nat × (Nat → Nat → Prop)) (Pc : Nat → Nat → Prop) (Vm : Nat → Prop) (tb : List Ent) (o mk N w st : Nat) (lo : Option Nat) (qh : Int32) (pre : List Int32) (q v : Nat) (E : En) (r : RT) (τ : CS) : Prop := ∃ (es : List Ent) (cs : List Int32) (w2 fi la : Nat) (xm lm : List Nat) (pl : List (Nat × Nat × Nat)), (QS T n b u al (tb ++ es) o r.1 r.2.1 (mk + 3 * pl.length) 0 (N + 2 + cs.length) τ ∧ (∀ i, i < cs.length → cdr b τ (N + 2 + i) = cs.getD i 0) ∧ ZF b u w2 st lo qh τ) ∧ FRw u gl Pc Vm w N w2 pl.length fi la xm lm (pre ++ cs) ∧ (1 ≤ pl.length ∧ v + pl.length ≤ r.2.1 ∧ 2 ≤ fi) ∧ (τ.1 4014 = nI (N + fi) ∧ τ.1 4015 = nI (N + la)) ∧ EvX (seeN E r.2.2.2.2.2) b u al gl (VmX Vm xm) (tb ++ es) τ ∧ (BdX n o r.1 r.2.1 (mk + 3 * pl.length) 0 (N + 2 + cs.length) (tb ++ es).length ∧ w2 ≤ 3 * r.2.1) ∧ (∀ i, i < 3 * pl.length → τ.2.2.1 41 (mk + i) = (mkF3 pl).getD i 0) ∧ (∀ e, e ∈ pl → (w ≤ e.1 ∧ e.1 + 1 < w2) ∧ w ≤ e.2.1 ∧ e.2.1 + e.2.2 ≤ w2) ∧ (∀ i, i < es.length → (es.getD i e0E).2.1 = 0) ∧ 2 * cs.length + 6 * pl.length ≤ 5 * (r.1 - q) ∧ q < r.1
end CYD
end JnS514
section JnS515
/-! The class: iters of fors are read. -/
section CYE
variable {σ σ' σ0 τ τ' τ0 : CS} {L : LV} {b : Bool} {T : Nat → Int32} {n q q' u al o v mk mk' p sz sz' szB szE nc nc0 sz0 mk0 a1 a2 m kk f e s0 ow a t0 g D w st w' st' M nm deep vv np lp N Bd nb k d P h st0 b0 it q0 v0 r0 c : Nat} {y qh qh' y0 y1 wd x0 x1 x3 : Int32} {l l' cs cs' cs2 ll lt lt0 co bo : List Int32} {tb tb' es : List Ent} {ns : List Nm} {E : En} {gl : Nat × (Nat → Nat → Prop)} {Vm Vm' : Nat → Prop} {Pc : Nat → Nat → Prop} {MD : Nat → Nat → Nat} {md : Nat → Nat} {bt : BT} {ks qs qs' qa qb js qsI : List Nat} {lo lo' : Option Nat} {s : SB} {α : Type} {S : α → Int32 → CS → Prop} {x : Fl α} {C : Prop} {hd : Bool}
theorem c_newSlotsM {k0 : Nat} (h : Zy T n b u al σ0 nc0 sz0 mk0 a1 a2 tb o q v mk w st lo qh szB cs τ) (hu : u < 42) (hw : w + k0 < 2147483648) (hb : L.2.2.1 0 = b) (h1 : L.1 1 = nI u) (h2 : L.1 2 = nI k0) : Tm (fun k => y_X7_newSlots__P k 0 L τ) (fun r => r.1 = nI w ∧ Zy T n b u al σ0 nc0 sz0 mk0 a1 a2 tb o q v mk (w + k0) st lo qh szB cs r.2 ∧ r.2.2.2.1 41 = τ.2.2.1 41) := by
  have i42 : ¬ (nI u < 0 ∨ 42 ≤ (nI u).toNatClampNeg) := u_in (by rw [u_n (by omega)]; omega) (by decide)
  have zf := h.2.2
  have pc2 := pR18_c b
  refine Tm_suc (fun k => by rw [y_X7_newSlots__P]) ?_
  rw [hb, h1, h2]
  refine Tm_chk i42 (Tm_chk i42 (Tm_chk i42 ?_))
  rw [n_cl (p := u) (by omega), zf.1, n_add hw]
  refine Tm_some ⟨?_, Zy_r h (Or.inr rfl) ⟨by rw [uA_r, upd_same], zf.2⟩, uA_k (by omega)⟩
  show (uA τ (pR18 b) u (nI (w + k0))).2.2.1 (pR18 b) u - nI k0 = nI w
  rw [uA_r, upd_same, n_sub (by omega) (by omega)]
  exact congrArg nI (by omega)
/-- the loop over iters, from one on -/
def LpF (T : Nat → Int32) (n : Nat) (b : Bool) (u al : Nat) (gl : Nat × (Nat → Nat → Prop)) (Pc : Nat → Nat → Prop) (Vm : Nat → Prop) (E : En) (tb : List Ent) (o mk N w st : Nat) (lo : Option Nat) (qh : Int32) (pre : List Int32) (q v sz g e : Nat) (x : Fl RT) (σ : CS) (f1 : Nat) : Prop := ∀ (K : RT → RG) (acc : List Nm) (E1 : En) (L' : LV) (τ : CS) (a1 a2 q1 v1 w1 i1 e1 it fi la : Nat) (bt1 : BT) (es : List Ent) (cs : List Int32) (xm lm : List Nat) (pl : List (Nat × Nat × Nat)), gb (G T n f1 17 E1 o q1 v1 i1 e1 E.2.2.1.length g bt1) K = some x → (∀ r : RT, ∃ r' : RT, K r = some (Sum.inr r') ∧ r'.1 = r.1 ∧ r'.2.1 = r.2.1 ∧ r'.2.2.2.2.2 = r.2.2.2.2.2 ++ acc) → (E1.1 = E.1 ∧ E1.2.1 = acc ++ E.2.1 ∧ E1.2.2.2 = E.2.2.2) → Zy T n b u al σ tb.length sz mk a1 a2 (tb ++ es) o q1 v1 (mk + 3 * pl.length) w1 st lo qh sz cs τ → FRw u gl Pc Vm w N w1 pl.length fi la xm lm (pre ++ cs) → ((pl.length = 0 → L'.1 3 = -1) ∧ (1 ≤ pl.length → L'.1 3 = nI (N + fi) ∧ L'.1 4 = nI (N + la) ∧ 2 ≤ fi)) → NmR E1 u gl (VmX Vm xm) (tb ++ es) → RwE E1 E.2.2.1.length (tb ++ es) tb.length → (BdX n o q1 v1 (mk + 3 * pl.length) 0 (sz + cs.length) (tb ++ es).length ∧ w1 ≤ 3 * v1) → (∀ i, i < 3 * pl.length → τ.2.2.1 41 (mk + i) = (mkF3 pl).getD i 0) → (∀ e, e ∈ pl → (w ≤ e.1 ∧ e.1 + 1 < w1) ∧ w ≤ e.2.1 ∧ e.2.1 + e.2.2 ≤ w1) → (∀ i, i < es.length → (es.getD i e0E).2.1 = 0) → 2 * cs.length + 6 * pl.length ≤ 5 * (q1 - q) → q ≤ q1 → v + pl.length ≤ v1 → it ≤ q1 → L'.1 1 = 1 → L'.1 2 = nI tb.length → L'.1 5 = 1 → L'.1 6 = nI it → Tm (fun k => f_F2 k (e + 1) 5 1 L' τ) (ZPo b u tb.length sz mk x (fun r _ τ => FtR T n b u al gl Pc Vm tb o mk N w st lo qh pre q v E r τ) σ a1 a2)
theorem c_itF16 {f1 e : Nat} {pre l4 : List Int32} {x : Fl RT} {K : RT → RG} {acc : List Nm} {E1 : En} {q1 v1 w1 i1 e1 fi la cnt qe : Nat} {es1 : List Ent} {xm lm : List Nat} {pl : List (Nat × Nat × Nat)} {zz s : RT} (ih : LpF T n b u al gl Pc Vm E tb o mk N w st lo qh pre q v sz g e x σ f1) (hK : ∀ r : RT, ∃ r' : RT, K r = some (Sum.inr r') ∧ r'.1 = r.1 ∧ r'.2.1 = r.2.1 ∧ r'.2.2.2.2.2 = r.2.2.2.2.2 ++ acc) (hE : E1.1 = E.1 ∧ E1.2.1 = acc ++ E.2.1 ∧ E1.2.2.2 = E.2.2.2) (fr : FRw u gl Pc Vm w N w1 pl.length fi la xm lm (pre ++ cs)) (hfi : 1 ≤ pl.length → 2 ≤ fi) (lpc : (pre ++ cs).length = cs.length + 2) (eN : sz = N + 2) (ev1 : NmR E1 u gl (VmX Vm xm) (tb ++ es)) (re1 : RwE E1 E.2.2.1.length (tb ++ es) tb.length) (ple : ∀ e, e ∈ pl → (w ≤ e.1 ∧ e.1 + 1 < w1) ∧ w ≤ e.2.1 ∧ e.2.1 + e.2.2 ≤ w1) (ek : ∀ i, i < es.length → (es.getD i e0E).2.1 = 0) (u42 : u < 42) (evm : ∀ (E2 : En) (tb2 : List Ent) (Vm2 : Nat → Prop) (τ2 : CS), NmR E2 u gl Vm2 tb2 → E2.2.2.2 = E.2.2.2 → ZK b u tb.length sz mk σ τ2 → EvX E2 b u al gl Vm2 tb2 τ2) (hcnt : es1.length = cnt) (cnt1 : 1 ≤ cnt) (i3 : NsF u w1 true es1 zz.2.2.2.2.2) (sg4 : Sgm u 0 gl (VmX Vm xm) 1 l4) (y6 : gb (if tkK T n s.1 = 12 then gT T n s.1 (fun q3 => gb (G T n f1 17 (rowN (seeN E1 zz.2.2.2.2.2) zz.2.2.2.2.2) o q3 s.2.1 (if i1 = 0 then s.2.2.2.2.1.1 else i1) s.2.2.2.2.1.1 E.2.2.1.length g (if i1 = 0 then bNode s.2.2.2.2.1 30 (if zz.2.2.1 = 0 then 0 else 1) (nI zz.2.2.2.1) (nI s.2.2.2.1) else bSet (bNode s.2.2.2.2.1 30 (if zz.2.2.1 = 0 then 0 else 1) (nI zz.2.2.2.1) (nI s.2.2.2.1)) 9 e1 (nI s.2.2.2.2.1.1))) (fun t => some (Sum.inr (t.1, t.2.1, 0, t.2.2.2.1, t.2.2.2.2.1, t.2.2.2.2.2 ++ zz.2.2.2.2.2)))) else some (Sum.inr (s.1, s.2.1, 0, (if i1 = 0 then s.2.2.2.2.1.1 else i1), (if i1 = 0 then bNode s.2.2.2.2.1 30 (if zz.2.2.1 = 0 then 0 else 1) (nI zz.2.2.2.1) (nI s.2.2.2.1) else bSet (bNode s.2.2.2.2.1 30 (if zz.2.2.1 = 0 then 0 else 1) (nI zz.2.2.2.1) (nI s.2.2.2.1)) 9 e1 (nI s.2.2.2.2.1.1)), zz.2.2.2.2.2))) K = some x) (n10 : n ≤ 10240) (o20 : o ≤ 20) (bA : 2 * (sz + cs.length) + 3 * (n - q1) + 100 ≤ 73728) (bB : mk + 3 * pl.length ≤ 2 * q1 + 18 * o) (bC : tb.length + es.length + cnt + (60 - s.2.1) ≤ 256) (w13 : w1 ≤ 3 * v1) (ln : 2 * cs.length + 6 * pl.length ≤ 5 * (q1 - q)) (lq : q ≤ q1) (lv : v + pl.length ≤ v1) (li : it ≤ q1) (iA : q1 + 1 + 2 * zz.2.2.1 ≤ zz.1 ∧ zz.1 + 2 ≤ qe ∧ qe < s.1) (kn1 : zz.2.2.1 = 0 ∨ zz.2.2.1 = 1) (ln4 : 2 * l4.length ≤ 3 * (s.1 - qe) + 1) (vA : v1 + cnt ≤ s.2.1 ∧ s.2.1 ≤ 60) (go4 : s.1 ≤ n ∧ tkN T n s.1 ≤ n ∧ (¬ tkK T n s.1 = 25 → s.1 < tkN T n s.1)) : ∀ (L5 : LV) (τ5 : CS) (a5 a6 c0 fx : Nat) (wd : Int32), L5.1 1 = 1 → L5.1 2 = nI tb.length → L5.1 3 = nI (N + fx) → fx = (if pl.length = 0 then cs.length + 2 + l4.length + 1 else fi) → L5.1 4 = nI (N + (cs.length + 2 + l4.length + 1)) → L5.1 6 = nI it → L5.1 7 = nI (tb ++ es).length → L5.1 8 = nI w1 → L5.1 10 = nI cnt → L5.1 11 = nI (w1 + cnt) → L5.1 100 = nI c0 → L5.1 101 = nI w1 → (c0 = 0 ∧ cnt = 1 ∨ c0 = cnt ∧ zz.2.2.1 = 1) → (1 ≤ pl.length → wd = nI la - nI (cs.length + 2 + l4.length + 1)) → (∀ i, i < 3 * pl.length → τ5.2.2.1 41 (mk + i) = (mkF3 pl).getD i 0) → Zy T n b u al σ tb.length sz mk a5 a6 (tb ++ es ++ es1) o s.1 s.2.1 (mk + 3 * pl.length) (w1 + cnt + 2) st lo qh sz (cs ++ (l4 ++ [em 69 (nI (w1 + cnt)), em 70 (nI (w1 + cnt)), wd])) τ5 → Tm (fun k => f_F2 k (e + 1) 5 16 L5 τ5) (ZPo b u tb.length sz mk x (fun r _ τ => FtR T n b u al gl Pc Vm tb o mk N w st lo qh pre q v E r τ) σ a5 a6) := by
  have hfi2 : 2 ≤ (if pl.length = 0 then cs.length + 2 + l4.length + 1 else fi) := by
    by_cases z : pl.length = 0
    · rw [if_pos z]; omega
    · rw [if_neg z]; exact hfi (by omega)
  have kx := fr.2.1
  have la' : (tb ++ es).length = tb.length + es.length := List.length_append
  have lb : (tb ++ es ++ es1).length = tb.length + es.length + es1.length := by rw [List.length_append, la']
  have l10 : ∀ L2 : LV, L2.1 1 = 1 → ¬ L2.1 1 = 0 := fun L2 z => by rw [z]; decide
  intro L5 τ5 a5 a6 c0 fx wd h1 h2 h3 hfx h4 h6 h7 h8 h10 h11 h100 h101 hc0 hwd mk5 s5
  have lcs : (cs ++ (l4 ++ [em 69 (nI (w1 + cnt)), em 70 (nI (w1 + cnt)), wd])).length = cs.length + l4.length + 3 := by rw [List.length_append, List.length_append]; show cs.length + (l4.length + 3) = _; omega
  refine Tm_suc (fun k => it_16 k _ _ _) ?_
  refine zt_store (k0 := w1) (c0 := c0) s5 h101 h100 h1 (by omega) (by rw [lcs]; omega) (fun τ6 ret6 n7 n8 s6 xk6 => ?_)
  have hlo : (if c0 = 0 then [em 71 (nI w1)] else [em 72 (nI w1), nI c0]).length ≤ 1 + zz.2.2.1 ∧ 1 ≤ (if c0 = 0 then [em 71 (nI w1)] else [em 72 (nI w1), nI c0]).length := by
    rcases hc0 with ⟨z1, z2⟩ | ⟨z1, z2⟩
    · rw [if_pos z1]; exact ⟨by show 1 ≤ _; omega, by show 1 ≤ 1; omega⟩
    · rw [if_neg (by omega)]; exact ⟨by show 2 ≤ _; omega, by show 1 ≤ 2; omega⟩
  have hnm : FNm w1 cnt (if c0 = 0 then [em 71 (nI w1)] else [em 72 (nI w1), nI c0]) := by
    refine ⟨by omega, ?_⟩
    rcases hc0 with ⟨z1, z2⟩ | ⟨z1, z2⟩
    · rw [if_pos z1]; exact Or.inl ⟨z2, rfl⟩
    · rw [if_neg (by omega), z1]; exact Or.inr rfl
  generalize (if c0 = 0 then [em 71 (nI w1)] else [em 72 (nI w1), nI c0]) = ins at *
  have eap : cs ++ (l4 ++ [em 69 (nI (w1 + cnt)), em 70 (nI (w1 + cnt)), wd]) ++ ins = cs ++ (l4 ++ (em 69 (nI (w1 + cnt)) :: em 70 (nI (w1 + cnt)) :: wd :: ins)) := by rw [List.append_assoc, List.append_assoc]; rfl
  rw [eap] at s6
  have lfull : (cs ++ (l4 ++ (em 69 (nI (w1 + cnt)) :: em 70 (nI (w1 + cnt)) :: wd :: ins))).length = cs.length + l4.length + 3 + ins.length := by rw [← eap, List.length_append, lcs]
  have fr2 := FRw_ad (wd := wd) fr (Vm' := VmX Vm xm) (fun i z => z) (fun i z => Or.inl z) sg4 hnm (by omega) (fun z => by rw [hwd z, lpc])
  rw [lpc, List.append_assoc] at fr2
  generalize hcs' : cs ++ (l4 ++ (em 69 (nI (w1 + cnt)) :: em 70 (nI (w1 + cnt)) :: wd :: ins)) = cs' at *
  have hVn : ∀ j, j < cnt → VmX Vm (vmL w1 cnt ++ (w1 + cnt) :: xm) (500000 + (w1 + j)) := fun j hj => VmX_nw kx (by omega) hj
  have hVm : ∀ i, VmX Vm xm i → VmX Vm (vmL w1 cnt ++ (w1 + cnt) :: xm) i := fun i z => VmX_mo kx (by omega) z
  generalize hxm' : vmL w1 cnt ++ (w1 + cnt) :: xm = xm' at *
  have nms2 := NsF_see i3
  have ls1 : (seeE es1).length = cnt := by rw [seeE_l, hcnt]
  have nm2 : NmR (rowN (seeN E1 zz.2.2.2.2.2) zz.2.2.2.2.2) u gl (VmX Vm xm') (tb ++ es ++ seeE es1) := by
    refine NmR_sf ev1 nms2 (by rw [ls1]; omega) (fun i hi => ?_) hVm u42
    rw [ls1] at hi
    exact hVn i hi
  have re2 : RwE (rowN (seeN E1 zz.2.2.2.2.2) zz.2.2.2.2.2) E.2.2.1.length (tb ++ es ++ seeE es1) tb.length := RwE_nf re1 (by rw [la']; omega) nms2
  have hE2 : (rowN (seeN E1 zz.2.2.2.2.2) zz.2.2.2.2.2).1 = E.1 ∧ (rowN (seeN E1 zz.2.2.2.2.2) zz.2.2.2.2.2).2.1 = (zz.2.2.2.2.2 ++ acc) ++ E.2.1 ∧ (rowN (seeN E1 zz.2.2.2.2.2) zz.2.2.2.2.2).2.2.2 = E.2.2.2 := by
    refine ⟨hE.1, ?_, hE.2.2⟩
    show zz.2.2.2.2.2 ++ E1.2.1 = _
    rw [hE.2.1, List.append_assoc]
  have lse : (tb ++ es ++ seeE es1).length = tb.length + es.length + cnt := by rw [List.length_append, la', ls1]
  have eas : tb ++ es ++ seeE es1 = tb ++ (es ++ seeE es1) := List.append_assoc _ _ _
  have lpl : (pl ++ [(w1 + cnt, w1, cnt)]).length = pl.length + 1 := by rw [List.length_append]; rfl
  have bd2 : BdX n o s.1 s.2.1 (mk + 3 * (pl.length + 1)) 0 (sz + cs'.length) (tb ++ es ++ seeE es1).length := by
    exact ⟨n10, by rw [lfull]; omega, by omega, by rw [lse]; omega, by omega⟩
  have mk6 : ∀ i, i < 3 * pl.length → τ6.2.2.1 41 (mk + i) = (mkF3 pl).getD i 0 := fun i hi => by
    rw [xk6.2.2.2.2.2.2.1 (mk + i) (by omega)]; exact mk5 i hi
  have ple2 : ∀ e, e ∈ pl ++ [(w1 + cnt, w1, cnt)] → (w ≤ e.1 ∧ e.1 + 1 < w1 + cnt + 2) ∧ w ≤ e.2.1 ∧ e.2.1 + e.2.2 ≤ w1 + cnt + 2 := fun e he => by
    have ww := fr.1.1
    rcases List.mem_append.1 he with z | z
    · have y := ple e z; omega
    · rcases List.mem_cons.1 z with z | z
      · rw [z]; exact ⟨⟨by show w ≤ w1 + cnt; omega, by show w1 + cnt + 1 < _; omega⟩, ww, by show w1 + cnt ≤ _; omega⟩
      · exact absurd z List.not_mem_nil
  have ek2 : ∀ i, i < (es ++ seeE es1).length → ((es ++ seeE es1).getD i e0E).2.1 = 0 := fun i hi => by
    rw [List.length_append, ls1] at hi
    by_cases z : i < es.length
    · rw [gE_l z]; exact ek i z
    · have y := gE_r (a := es) (c := seeE es1) (i - es.length)
      rw [show es.length + (i - es.length) = i by omega] at y
      rw [y, nms2.1 _ (by rw [ls1]; omega)]
  refine zt_see (tb := tb ++ es) (L := lI L5 13 (L5.1 7)) (R4 := τ6.2.2.1 41) es1 (by rw [lb]; omega) (fun L7 τ7 k1 k2 s7 r7 => ?_) (by rw [la']; omega) es1.length 0 _ τ6 (by omega) (by show L5.1 7 = _; rw [h7]; rfl) (fun _ _ => rfl) rfl s6 rfl
  have g1' : L7.1 1 = 1 := by rw [k1 1 (by decide)]; exact h1
  have g8' : L7.1 8 = nI w1 := by rw [k1 8 (by decide)]; exact h8
  have g10' : L7.1 10 = nI cnt := by rw [k1 10 (by decide)]; exact h10
  have g11' : L7.1 11 = nI (w1 + cnt) := by rw [k1 11 (by decide)]; exact h11
  refine Tm_suc (fun k => it_18 k _ _ _) ?_
  refine Tm_no (l10 _ g1') ?_
  refine zt_mark s7 (by omega) (fun τa j1 j2 sa xka ma => ?_)
  refine zt_mark sa (by omega) (fun τb j3 j4 sb xkb mb => ?_)
  refine zt_mark sb (by omega) (fun τc j5 j6 sc xkc mc => ?_)
  have ma' : τa.2.2.1 41 (mk + 3 * pl.length) = nI (w1 + cnt) := ma.trans g11'
  have mb' : τb.2.2.1 41 (mk + 3 * pl.length + 1) = nI w1 := mb.trans g8'
  have mc' : τc.2.2.1 41 (mk + 3 * pl.length + 1 + 1) = nI cnt := mc.trans g10'
  have mkC : ∀ i, i < 3 * (pl ++ [(w1 + cnt, w1, cnt)]).length → τc.2.2.1 41 (mk + i) = (mkF3 (pl ++ [(w1 + cnt, w1, cnt)])).getD i 0 := fun i hi => by
    rw [lpl] at hi
    rw [mkF3_a]
    have l3 := mkF3_l pl
    by_cases c1 : i < 3 * pl.length
    · rw [gd_l (by omega), xkc.2.2.2.2.2.2.1 (mk + i) (by omega), xkb.2.2.2.2.2.2.1 (mk + i) (by omega), xka.2.2.2.2.2.2.1 (mk + i) (by omega), r7]
      exact mk6 i c1
    · have y := gd_r (a := mkF3 pl) (b := [nI (w1 + cnt), nI w1, nI cnt]) (i - 3 * pl.length)
      rw [l3, show 3 * pl.length + (i - 3 * pl.length) = i by omega] at y
      rw [y]
      have c2 : i = 3 * pl.length ∨ i = 3 * pl.length + 1 ∨ i = 3 * pl.length + 2 := by omega
      rcases c2 with c2 | c2 | c2
      · rw [c2, Nat.sub_self, xkc.2.2.2.2.2.2.1 _ (by omega), xkb.2.2.2.2.2.2.1 _ (by omega)]; exact ma'
      · rw [c2, show 3 * pl.length + 1 - 3 * pl.length = 1 by omega, ← Nat.add_assoc, xkc.2.2.2.2.2.2.1 _ (by omega)]; exact mb'
      · rw [c2, show 3 * pl.length + 2 - 3 * pl.length = 2 by omega]; exact mc'
  have sc' : Zy T n b u al σ tb.length sz mk (a5 + n7 + j1 + j3 + j5) (a6 + n8 + j2 + j4 + j6) (tb ++ es ++ seeE es1) o s.1 s.2.1 (mk + 3 * (pl ++ [(w1 + cnt, w1, cnt)]).length) (w1 + cnt + 2) st lo qh sz cs' τc := by
    rw [lpl]; exact sc
  refine Tm_suc (fun k => it_19 k _ _ _) ?_
  by_cases k12 : tkK T n s.1 = 12
  · rw [if_pos k12, gb_gT] at y6
    simp only [gb_gb] at y6
    refine Tm_yes ((lx_k (kk := 12) sc'.1.1 (by decide)).2 k12) ?_
    refine Tm_suc (fun k => it_21 k _ _ _) ?_
    refine Tm_no (by show ¬ (1 : Int32) = 0; decide) ?_
    refine zt_adv sc' (gT_any y6) (fun τ8 ret8 j7 j8 c8 s8 xk8 => ?_)
    refine Tm_suc (fun k => it_22 k _ _ _) ?_
    have g8 := go4.2.2 (by omega)
    rw [eas] at s8 nm2 re2 bd2
    refine ih _ (zz.2.2.2.2.2 ++ acc) _ _ τ8 _ _ (tkN T n s.1) s.2.1 (w1 + cnt + 2) _ _ (it + 1) _ _ _ (es ++ seeE es1) cs' xm' _ (pl ++ [(w1 + cnt, w1, cnt)]) c8 (fun r => ?_) hE2 s8 (by rw [lpl]; exact fr2) ⟨fun z => absurd z (by rw [lpl]; omega), fun _ => ⟨?_, ?_, hfi2⟩⟩ nm2 re2 ⟨by rw [lpl]; exact BdX_g bd2 (by omega) go4.2.1 (Nat.le_refl _) (Nat.le_refl _) (by omega), by omega⟩ (fun i hi => ?_) ple2 ek2 (by rw [lfull, lpl]; omega) (by omega) (by rw [lpl]; omega) (by omega) ?_ ?_ rfl ?_
    · obtain ⟨r', e1', e2', e3', e4'⟩ := hK (r.1, r.2.1, 0, r.2.2.2.1, r.2.2.2.2.1, r.2.2.2.2.2 ++ zz.2.2.2.2.2)
      exact ⟨r', e1', e2', e3', by rw [e4', List.append_assoc]⟩
    · show L7.1 3 = _
      rw [k1 3 (by decide), ← hfx]; exact h3
    · show L7.1 4 = _
      rw [k1 4 (by decide)]; exact h4
    · rw [xk8.2.2.2.2.2.2.1 (mk + i) (by omega)]; exact mkC i hi
    · show L7.1 1 = _
      exact g1'
    · show L7.1 2 = _
      rw [k1 2 (by decide)]; exact h2
    · show L7.1 6 + 1 = _
      rw [k1 6 (by decide)]
      show L5.1 6 + 1 = _
      rw [h6, n_add1]
  · rw [if_neg k12] at y6
    obtain ⟨r', e1', e2', e3', e4'⟩ := hK (s.1, s.2.1, 0, (if i1 = 0 then s.2.2.2.2.1.1 else i1), (if i1 = 0 then bNode s.2.2.2.2.1 30 (if zz.2.2.1 = 0 then 0 else 1) (nI zz.2.2.2.1) (nI s.2.2.2.1) else bSet (bNode s.2.2.2.2.1 30 (if zz.2.2.1 = 0 then 0 else 1) (nI zz.2.2.2.1) (nI s.2.2.2.1)) 9 e1 (nI s.2.2.2.2.1.1)), zz.2.2.2.2.2)
    have hx : x = Sum.inr r' := by
      have y7 : K (s.1, s.2.1, 0, (if i1 = 0 then s.2.2.2.2.1.1 else i1), (if i1 = 0 then bNode s.2.2.2.2.1 30 (if zz.2.2.1 = 0 then 0 else 1) (nI zz.2.2.2.1) (nI s.2.2.2.1) else bSet (bNode s.2.2.2.2.1 30 (if zz.2.2.1 = 0 then 0 else 1) (nI zz.2.2.2.1) (nI s.2.2.2.1)) 9 e1 (nI s.2.2.2.2.1.1)), zz.2.2.2.2.2) = some x := y6
      rw [e1'] at y7
      exact (Option.some.inj y7).symm
    refine Tm_no (fun z => k12 ((lx_k (kk := 12) sc'.1.1 (by decide)).1 z)) ?_
    refine Tm_suc (fun k => it_20 k _ _ _) ?_
    refine Tm_suc (fun k => it_21 k _ _ _) ?_
    refine Tm_yes rfl ?_
    refine Tm_suc (fun k => it_22 k _ _ _) ?_
    refine Tm_suc (fun k => it_1 k _ _ _) ?_
    refine Tm_no (by show ¬ nI 32768 < L7.1 6 + 1; rw [k1 6 (by decide)]; show ¬ nI 32768 < L5.1 6 + 1; rw [h6, n_add1, n_lt (by decide) (by omega)]; omega) ?_
    refine Tm_yes rfl ?_
    refine Tm_suc (fun k => it_2 k _ _ _) ?_
    have e31 : L7.1 3 = nI (N + fx) := by rw [k1 3 (by decide)]; exact h3
    have e41 : L7.1 4 = nI (N + (cs.length + 2 + l4.length + 1)) := by rw [k1 4 (by decide)]; exact h4
    have fc := fP_c b 3
    have zfc := sc'.2.2
    have s9 : Zy T n b u al σ tb.length sz mk (a5 + n7 + j1 + j3 + j5) (a6 + n8 + j2 + j4 + j6) (tb ++ es ++ seeE es1) o s.1 s.2.1 (mk + 3 * (pl ++ [(w1 + cnt, w1, cnt)]).length) (w1 + cnt + 2) st lo qh sz cs' (uI (uI τc 4014 (L7.1 3)) 4015 (L7.1 4)) := Zy_g sc' (fun j hj => by rw [uI_o (by omega), uI_o (by omega)]) rfl (by rw [uI_o (by decide), uI_o (by decide)]; exact sc'.1.1.2.2.1.1) (Nat.le_refl _) sc'.1.2.2.2.2.2 (ZF_e zfc (fun j hj => by rw [uI_o (by omega), uI_o (by omega)]) rfl rfl)
    rw [hx]
    rw [eas] at s9 nm2 bd2
    have ev9 : EvX (seeN E r'.2.2.2.2.2) b u al gl (VmX Vm xm') (tb ++ (es ++ seeE es1)) (uI (uI τc 4014 (L7.1 3)) 4015 (L7.1 4)) := by
      refine EvX_e (evm _ _ _ _ nm2 hE2.2.2 s9.1.2.1) hE2.1.symm ?_ hE2.2.2.symm
      rw [hE2.2.1, e4']
      rfl
    have sN2 : sz + cs'.length = N + 2 + cs'.length := by rw [eN]
    refine Tm_some (Zfin s9 ⟨es ++ seeE es1, cs', w1 + cnt + 2, _, _, xm', _, pl ++ [(w1 + cnt, w1, cnt)], ⟨by rw [e2', e3', ← sN2]; exact s9.1.1, by rw [← eN]; exact s9.2.1, s9.2.2⟩, by rw [lpl]; exact fr2, ⟨by rw [lpl]; omega, by rw [lpl, e3']; show v + (pl.length + 1) ≤ s.2.1; omega, hfi2⟩, ⟨?_, ?_⟩, ev9, ⟨by rw [e2', e3', lpl, ← sN2]; exact bd2, by rw [e3']; show w1 + cnt + 2 ≤ 3 * s.2.1; omega⟩, mkC, ple2, ek2, ?_, ?_⟩)
    · rw [uI_o (by decide), uI_s, ← hfx]; exact e31
    · rw [uI_s]; exact e41
    · rw [e2', lfull, lpl]
      show 2 * (cs.length + l4.length + 3 + ins.length) + 6 * (pl.length + 1) ≤ 5 * (s.1 - q)
      omega
    · rw [e2']; show q < s.1; omega
end CYE
end JnS515
section JnS516
/-! The class: iters of fors are read. -/
section CYF
variable {σ σ' σ0 τ τ' τ0 : CS} {L : LV} {b : Bool} {T : Nat → Int32} {n q q' u al o v mk mk' p sz sz' szB szE nc nc0 sz0 mk0 a1 a2 m kk f e s0 ow a t0 g D w st w' st' M nm deep vv np lp N Bd nb k d P h st0 b0 it q0 v0 r0 c : Nat} {y qh qh' y0 y1 wd x0 x1 x3 : Int32} {l l' cs cs' cs2 ll lt lt0 co bo : List Int32} {tb tb' es : List Ent} {ns : List Nm} {E : En} {gl : Nat × (Nat → Nat → Prop)} {Vm Vm' : Nat → Prop} {Pc : Nat → Nat → Prop} {MD : Nat → Nat → Nat} {md : Nat → Nat} {bt : BT} {ks qs qs' qa qb js qsI : List Nat} {lo lo' : Option Nat} {s : SB} {α : Type} {S : α → Int32 → CS → Prop} {x : Fl α} {C : Prop} {hd : Bool}
theorem c_itersF {i0 e0 : Nat} {pre : List Int32} {x : Fl RT} (h : QS T n b u al tb o q v mk 0 sz σ) (zf : ZF b u w st lo qh σ) (ev : EvX E b u al gl Vm tb σ) (bd : BdX n o q v mk 0 sz tb.length) (hw3 : w ≤ 3 * v) (fr0 : FRw u gl Pc Vm w N w 0 0 0 [] [] pre) (lp2 : pre.length = 2) (eN : sz = N + 2) (l1 : L.1 1 = 1) (hG : G T n f 17 E o q v i0 e0 E.2.2.1.length g bt = some x) (hd : 6 * (20 - o) + 8 ≤ e) : Tm (fun k => f_F2 k (e + 1) 5 0 L σ) (ZPo b u tb.length sz mk x (fun r _ τ => FtR T n b u al gl Pc Vm tb o mk N w st lo qh pre q v E r τ) σ 0 0) := by
  have s0 := Zy_0 h zf
  have b22 := bd.2.1
  have n10 := bd.1
  have u42 : u < 42 := ev.2.2.1.2
  have evm : ∀ (E2 : En) (tb2 : List Ent) (Vm2 : Nat → Prop) (τ2 : CS), NmR E2 u gl Vm2 tb2 → E2.2.2.2 = E.2.2.2 → ZK b u tb.length sz mk σ τ2 → EvX E2 b u al gl Vm2 tb2 τ2 := fun E2 tb2 Vm2 τ2 nm he xk => by
    have z := EvX_z ev xk
    exact ⟨nm, z.2.1, z.2.2.1, by rw [he]; exact z.2.2.2.1, by rw [he]; exact z.2.2.2.2⟩
  have lp : ∀ (f1 : Nat), f1 ≤ f → ∀ (K : RT → RG) (acc : List Nm) (E1 : En) (L' : LV) (τ : CS) (a1 a2 q1 v1 w1 i1 e1 it fi la : Nat) (bt1 : BT) (es : List Ent) (cs : List Int32) (xm lm : List Nat) (pl : List (Nat × Nat × Nat)), gb (G T n f1 17 E1 o q1 v1 i1 e1 E.2.2.1.length g bt1) K = some x → (∀ r : RT, ∃ r' : RT, K r = some (Sum.inr r') ∧ r'.1 = r.1 ∧ r'.2.1 = r.2.1 ∧ r'.2.2.2.2.2 = r.2.2.2.2.2 ++ acc) → (E1.1 = E.1 ∧ E1.2.1 = acc ++ E.2.1 ∧ E1.2.2.2 = E.2.2.2) → Zy T n b u al σ tb.length sz mk a1 a2 (tb ++ es) o q1 v1 (mk + 3 * pl.length) w1 st lo qh sz cs τ → FRw u gl Pc Vm w N w1 pl.length fi la xm lm (pre ++ cs) → ((pl.length = 0 → L'.1 3 = -1) ∧ (1 ≤ pl.length → L'.1 3 = nI (N + fi) ∧ L'.1 4 = nI (N + la) ∧ 2 ≤ fi)) → NmR E1 u gl (VmX Vm xm) (tb ++ es) → RwE E1 E.2.2.1.length (tb ++ es) tb.length → (BdX n o q1 v1 (mk + 3 * pl.length) 0 (sz + cs.length) (tb ++ es).length ∧ w1 ≤ 3 * v1) → (∀ i, i < 3 * pl.length → τ.2.2.1 41 (mk + i) = (mkF3 pl).getD i 0) → (∀ e, e ∈ pl → (w ≤ e.1 ∧ e.1 + 1 < w1) ∧ w ≤ e.2.1 ∧ e.2.1 + e.2.2 ≤ w1) → (∀ i, i < es.length → (es.getD i e0E).2.1 = 0) → 2 * cs.length + 6 * pl.length ≤ 5 * (q1 - q) → q ≤ q1 → v + pl.length ≤ v1 → it ≤ q1 → L'.1 1 = 1 → L'.1 2 = nI tb.length → L'.1 5 = 1 → L'.1 6 = nI it → Tm (fun k => f_F2 k (e + 1) 5 1 L' τ) (ZPo b u tb.length sz mk x (fun r _ τ => FtR T n b u al gl Pc Vm tb o mk N w st lo qh pre q v E r τ) σ a1 a2) := by
    intro f1
    induction f1 with
    | zero =>
      intro _ K acc E1 L' τ a1 a2 q1 v1 w1 i1 e1 it fi la bt1 es cs xm lm pl hg
      exact absurd hg (by intro z; cases z)
    | succ f1 ih =>
      intro hf K acc E1 L' τ a1 a2 q1 v1 w1 i1 e1 it fi la bt1 es cs xm lm pl hg hK hE s1 fr hn3 ev1 re1 bdw mks ple ek ln lq lv li l1 l2 l5 l6
      obtain ⟨bd1, w13⟩ := bdw
      rw [G17_p, gb_gb] at hg
      have go1 := tk_go s1.1.1
      have b22' := bd1.2.1
      have mk3 := bd1.2.2.1
      have nt := bd1.2.2.2.1
      have v60 := s1.1.1.2.2.2.2.2.2.1.2
      have la' : (tb ++ es).length = tb.length + es.length := List.length_append
      have e11 := s1.1.1.2.2.2.1.1
      have e18 : τ.2.2.1 (pR18 b) u = nI w1 := s1.2.2.1
      have e03 : τ.1 4003 = nI u := s1.1.1.2.2.2.2.1.2.1
      have t256 := s1.1.1.2.2.2.1.2.1
      have o20 : o ≤ 20 := s1.1.1.2.2.2.2.2.1.2
      have i42 : ¬ (nI u < 0 ∨ 42 ≤ (nI u).toNatClampNeg) := u_in (by rw [u_n (by omega)]; omega) (by decide)
      have lpc : (pre ++ cs).length = cs.length + 2 := by rw [List.length_append, lp2]; omega
      have l10 : ∀ L2 : LV, L2.1 1 = 1 → ¬ L2.1 1 = 0 := fun L2 z => by rw [z]; decide
      have kx := fr.2.1
      have lal : 1 ≤ pl.length → fi + 2 ≤ cs.length + 2 ∧ la + 2 ≤ cs.length + 2 := fun z => by
        have y := fr.1.2.2 z
        rw [lpc] at y
        exact ⟨y.1, y.2.1⟩
      -- from the names on
      have b6 : ∀ (L2 : LV), L2.1 1 = 1 → L2.1 2 = nI tb.length → L2.1 3 = L'.1 3 → L2.1 4 = L'.1 4 → L2.1 6 = nI it → L2.1 7 = nI (tb ++ es).length → L2.1 8 = nI w1 → ((tkK T n q1 = 10 → L2.1 100 = 1) ∧ (¬ tkK T n q1 = 10 → L2.1 100 = 0)) → Tm (fun k => f_F2 k (e + 1) 5 6 L2 τ) (ZPo b u tb.length sz mk x (fun r _ τ => FtR T n b u al gl Pc Vm tb o mk N w st lo qh pre q v E r τ) σ a1 a2) := by
        intro L2 m1 m2 m3 m4 m6 m7 m8 m100
        have gi : ∃ z, gIn T n f1 E1 o E.2.2.1.length g q1 v1 bt1 = some z := by
          rcases gb_any hg with ⟨yf, y1, y2⟩ | ⟨r4, y1, y2⟩
          · exact ⟨_, y1⟩
          · exact ⟨_, y1⟩
        obtain ⟨z, hz⟩ := gi
        refine Tm_suc (fun k => it_6 k _ _ _) ?_
        refine zt_callZ (C := True) s1 (c_iterNf (r0 := tb.length) s1.1.1 s1.2.2 u42 nt (by omega) m2 (by rw [la']; omega) m100 m1 re1 hz) ?_
        rcases gb_any hg with ⟨yf, y1, y2⟩ | ⟨zz, y1, y2⟩
        · rw [hz] at y1
          exact Or.inl ⟨_, Option.some.inj y1, y2⟩
        rw [hz] at y1
        refine Or.inr ⟨zz, Option.some.inj y1, trivial, fun τ2 ret2 n1 n2 hr zk2 hc2 => ?_⟩
        obtain ⟨es1, i1', ⟨i2, i2'⟩, i3, i4, i5, i6⟩ := hr
        have s2 : Zy T n b u al σ tb.length sz mk (a1 + n1) (a2 + n2) (tb ++ es ++ es1) o zz.1 zz.2.1 (mk + 3 * pl.length) (w1 + es1.length) st lo qh sz cs τ2 := Zy_c0 s1 i2 zk2 hc2 (by rw [List.length_append, la']; omega) s1.1.2.2.2.2.2 i2'
        have mk2 : ∀ i, i < mk + 3 * pl.length → τ2.2.2.1 41 i = τ.2.2.1 41 i := zk2.2.2.2.2.2.2.1
        have lb : (tb ++ es ++ es1).length = tb.length + es.length + es1.length := by rw [List.length_append, la']
        have e112 := s2.1.1.2.2.2.1.1
        rw [lb] at e112
        have v602 := s2.1.1.2.2.2.2.2.2.1.2
        have t2562 := s2.1.1.2.2.2.1.2.1
        rw [lb] at t2562
        have gz := tk_go s2.1.1
        unfold gIt at y2
        rw [gb_gW] at y2
        refine Tm_oP (Zy_pp s2) ?_
        refine zt_expect (kk := 46) s2 (by decide) rfl (gW_a3 y2) (fun τ3 ret3 n3 n4 c3 s3 xk3 => ?_)
        obtain ⟨k46, c3⟩ := c3
        have w2' := tk_wl (m := 2) s2.1.1 k46 (by decide) rfl
        have kn1 : zz.2.2.1 = 0 ∨ zz.2.2.1 = 1 := by
          rcases i6 with w | w
          · exact Or.inl w.1
          · exact Or.inr w.1
        refine Tm_d ?_
        have ev3 : EvX (rowN E1 zz.2.2.2.2.2) b u al gl (VmX Vm xm) (tb ++ es ++ es1) τ3 := evm _ _ _ _ (NmR_hf ev1 i3) hE.2.2 s3.1.2.1
        have bd3 : BdX n o (tkN T n zz.1) zz.2.1 (mk + 3 * pl.length) 0 (sz + cs.length) (tb ++ es ++ es1).length := by
          obtain ⟨d1, d2, d3, d4, d5⟩ := bd1
          rw [la'] at d4
          exact ⟨d1, by omega, by omega, by rw [lb]; omega, by omega⟩
        have ec : τ2.1 (fP b 11) - L2.1 7 = nI es1.length := by
          rw [e112, m7, la', n_sub (by omega) (by omega)]
          exact congrArg nI (by omega)
        rw [gb_gb] at c3
        rcases gb_any c3 with ⟨yf, y5, y6⟩ | ⟨s, y5, y6⟩
        · exact zt_exp4 (C := True) s3 ev3 bd3 rfl hd y5 (Or.inl ⟨_, rfl, y6⟩) (fun _ _ _ _ _ _ z => by cases z)
        refine zt_exp4 (C := True) s3 ev3 bd3 rfl hd y5 (Or.inr ⟨s, rfl, trivial⟩) (fun τ4 ret4 n5 n6 s' l4 hz4 _ s4 xk4 sg4 ln4 lt4 lv4 => ?_)
        cases hz4
        have go4 := tk_go s4.1.1
        have v604 := s4.1.1.2.2.2.2.2.2.1.2
        have lc : (cs ++ l4).length = cs.length + l4.length := List.length_append
        generalize hcnt : es1.length = cnt at *
        have mk4 : ∀ i, i < 3 * pl.length → τ4.2.2.1 41 (mk + i) = (mkF3 pl).getD i 0 := fun i hi => by
          rw [xk4.2.2.2.2.2.2.1 (mk + i) (by omega), xk3.2.2.2.2.2.2.1 (mk + i) (by omega), mk2 (mk + i) (by omega)]
          exact mks i hi
        have cnt1 : 1 ≤ cnt := by omega
        have b16 := c_itF16 (qe := tkN T n zz.1) (l4 := l4) (fun K acc E1 L' τ a1 a2 q1 v1 w1 i1 e1 it fi la bt1 es cs xm lm pl => ih (by omega) K acc E1 L' τ a1 a2 q1 v1 w1 i1 e1 it fi la bt1 es cs xm lm pl) hK hE fr (fun z => (hn3.2 z).2.2) lpc eN ev1 re1 ple ek u42 evm hcnt cnt1 i3 sg4 y6 n10 o20 b22' mk3 (by rw [la'] at nt; omega) w13 ln lq lv li ⟨i5, w2', lt4⟩ kn1 ln4 ⟨by omega, v604⟩ go4
        refine Tm_no (l10 _ m1) ?_
        refine Tm_oP (Zy_pp s4) ?_
        have e034 : τ4.1 4003 = nI u := s4.1.1.2.2.2.2.1.2.1
        have nsl := c_newSlotsM (L := lI (lI (lB lZ 0 b) 1 (τ4.1 4003)) 2 2) (k0 := 2) s4 u42 (by omega) rfl e034 rfl
        refine Tm_op nsl (fun r7 z7 => ?_)
        obtain ⟨er7, s7, r41⟩ := z7
        refine Tm_suc (fun k => it_8 k _ _ _) ?_
        refine Tm_oP (Zy_pp s7) ?_
        refine Tm_no (l10 _ m1) ?_
        refine Tm_suc (fun k => it_10 k _ _ _) ?_
        refine zt_emit (op := 69) s7 rfl rfl (by rw [lc]; omega) (fun τ8 x1 x2 s8 xk8 => ?_)
        refine Tm_oP (Zy_pp s8) ?_
        refine Tm_no (l10 _ m1) ?_
        refine Tm_suc (fun k => it_12 k _ _ _) ?_
        have ld : ∀ w : Int32, (cs ++ l4 ++ [em 69 w]).length = cs.length + l4.length + 1 := fun w => by rw [List.length_append, lc]; rfl
        refine zt_emit (op := 70) s8 rfl rfl (by rw [ld]; omega) (fun τ9 x3 x4 s9 xk9 => ?_)
        refine Tm_oP (Zy_pp s9) ?_
        have le' : ∀ w w' : Int32, (cs ++ l4 ++ [em 69 w] ++ [em 70 w']).length = cs.length + l4.length + 2 := fun w w' => by rw [List.length_append, ld]; rfl
        refine zt_word s9 rfl (by rw [le']; omega) (fun τ10 x5 x6 s10 xk10 => ?_)
        have eNx : ∀ k : Nat, sz + (cs.length + l4.length + 1) = N + (cs.length + 2 + l4.length + 1) := fun _ => by rw [eN]; omega
        have s10' : Zy T n b u al σ tb.length sz mk (a1 + n1 + n3 + n5 + x1 + x3 + x5) (a2 + n2 + n4 + n6 + x2 + x4 + x6) (tb ++ es ++ es1) o s.1 s.2.1 (mk + 3 * pl.length) (w1 + cnt + 2) st lo qh sz (cs ++ (l4 ++ [em 69 (nI (w1 + cnt)), em 70 (nI (w1 + cnt)), L2.1 4 - nI (N + (cs.length + 2 + l4.length + 1))])) τ10 := by
          have e1' : cs ++ (l4 ++ [em 69 (nI (w1 + cnt)), em 70 (nI (w1 + cnt)), L2.1 4 - nI (N + (cs.length + 2 + l4.length + 1))]) = cs ++ l4 ++ [em 69 (nI (w1 + cnt))] ++ [em 70 (nI (w1 + cnt))] ++ [L2.1 4 - nI (N + (cs.length + 2 + l4.length + 1))] := by simp only [List.append_assoc]; rfl
          rw [e1', ← er7]
          have e2' := ld r7.1
          have s10'' : Zy T n b u al σ tb.length sz mk (a1 + n1 + n3 + n5 + x1 + x3 + x5) (a2 + n2 + n4 + n6 + x2 + x4 + x6) (tb ++ es ++ es1) o s.1 s.2.1 (mk + 3 * pl.length) (w1 + cnt + 2) st lo qh sz (cs ++ l4 ++ [em 69 r7.1] ++ [em 70 r7.1] ++ [L2.1 4 - nI (sz + (cs ++ l4 ++ [em 69 r7.1]).length)]) τ10 := s10
          rw [e2', eNx 0] at s10''
          exact s10''
        have mk10 : ∀ i, i < 3 * pl.length → τ10.2.2.1 41 (mk + i) = (mkF3 pl).getD i 0 := fun i hi => by
          rw [xk10.2.2.2.2.2.2.1 (mk + i) (by omega), xk9.2.2.2.2.2.2.1 (mk + i) (by omega), xk8.2.2.2.2.2.2.1 (mk + i) (by omega), r41]
          exact mk4 i hi
        have nxe : nI (sz + (cs ++ l4 ++ [em 69 r7.1]).length) = nI (N + (cs.length + 2 + l4.length + 1)) := by rw [ld, eNx 0]
        have hwd : 1 ≤ pl.length → L2.1 4 - nI (N + (cs.length + 2 + l4.length + 1)) = nI la - nI (cs.length + 2 + l4.length + 1) := fun z => by
          have z2 := lal z
          rw [m4, (hn3.2 z).2.1]
          exact n_ss N la (cs.length + 2 + l4.length + 1) (by omega) (by omega)
        -- which is first
        have b14 : ∀ (L6 : LV) (fx : Nat), L6.1 1 = 1 → L6.1 2 = nI tb.length → L6.1 6 = nI it → L6.1 7 = nI (tb ++ es).length → L6.1 8 = nI w1 → L6.1 9 = L2.1 100 → L6.1 10 = nI cnt → L6.1 11 = nI (w1 + cnt) → L6.1 12 = nI (N + (cs.length + 2 + l4.length + 1)) → L6.1 100 = nI (N + fx) → fx = (if pl.length = 0 then cs.length + 2 + l4.length + 1 else fi) → Tm (fun k => f_F2 k (e + 1) 5 14 L6 τ10) (ZPo b u tb.length sz mk x (fun r _ τ => FtR T n b u al gl Pc Vm tb o mk N w st lo qh pre q v E r τ) σ (a1 + n1 + n3 + n5 + x1 + x3 + x5) (a2 + n2 + n4 + n6 + x2 + x4 + x6)) := by
          intro L6 fx h1 h2 h6 h7 h8 h9 h10 h11 h12 h100 hfx
          refine Tm_suc (fun k => it_14 k _ _ _) ?_
          rw [h9]
          rcases i6 with ⟨z1, z2, z3⟩ | ⟨z1, z2⟩
          · refine Tm_yes (m100.2 z3) ?_
            refine Tm_suc (fun k => it_15 k _ _ _) ?_
            exact b16 _ τ10 _ _ 0 fx _ h1 h2 h100 hfx h12 h6 h7 h8 h10 h11 rfl h8 (Or.inl ⟨rfl, z2⟩) hwd mk10 s10'
          · refine Tm_no (by rw [m100.1 z2]; decide) ?_
            exact b16 _ τ10 _ _ cnt fx _ h1 h2 h100 hfx h12 h6 h7 h8 h10 h11 h10 h8 (Or.inr ⟨rfl, z1⟩) hwd mk10 s10'
        by_cases nln : pl.length = 0
        · refine Tm_yes (by show L2.1 3 = -1; rw [m3]; exact hn3.1 nln) ?_
          refine b14 _ (cs.length + 2 + l4.length + 1) m1 m2 m6 m7 m8 rfl ec er7 nxe nxe ?_
          rw [if_pos nln]
        · obtain ⟨h31, h32⟩ := hn3.2 (by omega)
          have z2 := lal (by omega)
          refine Tm_no (by show ¬ L2.1 3 = -1; rw [m3, h31]; exact n_mn (by omega)) ?_
          refine Tm_suc (fun k => it_13 k _ _ _) ?_
          refine b14 _ fi m1 m2 m6 m7 m8 rfl ec er7 nxe (by show L2.1 3 = _; rw [m3]; exact h31) ?_
          rw [if_neg nln]
      refine Tm_suc (fun k => it_1 k _ _ _) ?_
      refine Tm_no (by rw [l6]; show ¬ nI 32768 < nI it; rw [n_lt (by decide) (by omega)]; omega) ?_
      refine Tm_no (by rw [l5]; decide) ?_
      refine Tm_oP (Zy_pp s1) ?_
      refine Tm_no (l10 _ l1) ?_
      refine Tm_oP (Zy_pp s1) ?_
      rw [e03]
      refine Tm_chk i42 ?_
      rw [n_cl (p := u) (by omega), e18]
      refine Tm_suc (fun k => it_4 k _ _ _) ?_
      by_cases k10 : tkK T n q1 = 10
      · refine Tm_yes ((lx_k (kk := 10) s1.1.1 (by decide)).2 k10) ?_
        exact b6 _ l1 l2 rfl rfl l6 e11 rfl ⟨fun _ => rfl, fun z => absurd k10 z⟩
      · refine Tm_no (fun z => k10 ((lx_k (kk := 10) s1.1.1 (by decide)).1 z)) ?_
        refine Tm_suc (fun k => it_5 k _ _ _) ?_
        exact b6 _ l1 l2 rfl rfl l6 e11 rfl ⟨fun z => absurd z k10, fun _ => rfl⟩
  refine Tm_suc (fun k => it_0 k _ _ _) ?_
  refine Tm_oP (Zy_pp s0) ?_
  have s0' : Zy T n b u al σ tb.length sz mk 0 0 (tb ++ []) o q v (mk + 3 * ([] : List (Nat × Nat × Nat)).length) w st lo qh sz [] σ := by rw [List.append_nil]; exact s0
  refine lp f (Nat.le_refl _) (fun r => some (Sum.inr r)) [] E _ σ 0 0 q v w i0 e0 0 0 0 bt [] [] [] [] [] (by rw [gb_id]; exact hG) (fun r => ⟨r, rfl, rfl, rfl, by rw [List.append_nil]⟩) ⟨rfl, rfl, rfl⟩ s0' (by rw [List.append_nil]; exact fr0) ⟨fun _ => rfl, fun z => absurd z (by decide)⟩ ?_ ?_ ⟨?_, hw3⟩ (fun i hi => absurd hi (by show ¬ i < 3 * 0; omega)) (fun e he => absurd he List.not_mem_nil) (fun i hi => absurd hi (Nat.not_lt_zero _)) (by show 2 * 0 + 6 * 0 ≤ _; omega) (Nat.le_refl _) (Nat.le_refl _) (Nat.zero_le _) l1 s0.1.1.2.2.2.1.1 rfl rfl
  · rw [List.append_nil]
    exact ⟨ev.1.1, fun bs ok => ⟨fun i lk => EntR_m ((ev.1.2 bs ok).1 i lk) rfl rfl (fun i z => Or.inl z), (ev.1.2 bs ok).2⟩⟩
  · rw [List.append_nil]
    refine ⟨Nat.le_refl _, fun bs => ⟨fun z => ?_, fun z => ?_⟩⟩
    · obtain ⟨nm, z1, z2⟩ := z
      rw [Nat.sub_self, List.take_zero] at z1
      cases z1
    · obtain ⟨j, z1, z2, z3⟩ := z
      omega
  · rw [List.append_nil]
    exact bd
end CYF
end JnS516
section JnS517
/-! The class: the end of a for. -/
section CYG
variable {σ σ' σ0 τ τ' τ0 : CS} {L : LV} {b : Bool} {T : Nat → Int32} {n q q' u al o v mk mk' p sz sz' szB szE nc nc0 sz0 mk0 a1 a2 m kk f e s0 ow a t0 g D w st w' st' M nm deep vv np lp N Bd nb k d P h st0 b0 it q0 v0 r0 c : Nat} {y qh qh' y0 y1 wd x0 x1 x3 : Int32} {l l' cs cs' cs2 ll lt lt0 co bo : List Int32} {tb tb' es : List Ent} {ns : List Nm} {E : En} {gl : Nat × (Nat → Nat → Prop)} {Vm Vm' : Nat → Prop} {Pc : Nat → Nat → Prop} {MD : Nat → Nat → Nat} {md : Nat → Nat} {bt : BT} {ks qs qs' qa qb js qsI : List Nat} {lo lo' : Option Nat} {s : SB} {α : Type} {S : α → Int32 → CS → Prop} {x : Fl α} {C : Prop} {hd : Bool}
theorem Zy_set {hp : Nat} (h : Zy T n b u al σ0 nc0 sz0 mk0 a1 a2 tb o q v mk w st lo qh szB cs τ) (h0 : sz0 ≤ szB) (hh : hp < cs.length) (x : Int32) : Zy T n b u al σ0 nc0 sz0 mk0 a1 a2 tb o q v mk w st lo qh szB (cs.set hp x) (uA τ (pR0 (sKd τ b)) (szB + hp) x) := Zy_s h (Sy_set (Sy_z h) (Nat.le_refl _) hh x) h0
theorem Zy_in {hp : Nat} (h : Zy T n b u al σ0 nc0 sz0 mk0 a1 a2 tb o q v mk w st lo qh szB cs τ) (hh : hp < cs.length) : ¬ (nI (szB + hp) < 0 ∨ sN τ (pR0 (sKd τ b)) ≤ (nI (szB + hp)).toNatClampNeg) := by
  have n36 := cdn_b h.1.1
  have le : szB + cs.length ≤ cdn b τ := h.1.1.2.1.2.1
  exact u_in (n := cdn b τ) (by rw [u_n (by omega)]; omega) (by omega)
theorem fr1_0 (k d : Nat) (L : LV) (σ : CS) : f_F3 (k + 1) d 1 0 L σ = (oP (sPp σ) (fun b1 => oP (sPp σ) (fun b2 => if ¬ (((σ.1 4003)) < 0 ∨ 42 ≤ ((σ.1 4003)).toNatClampNeg) then (ox (f_X5_opens k 0 lZ σ) (fun r4 => oP (sPp r4.2.1) (fun b5 => ox (f_X7_emit__P k 0 (lI (lI (lB lZ 0 b5) 1 42) 2 0) r4.2.1) (fun r6 => ox (f_X5_iters k 0 (lI lZ 1 1) r6.2.1) (fun r7 => oP (sPp r7.2.1) (fun b8 => if ¬ (((r7.2.1.1 4003)) < 0 ∨ 42 ≤ ((r7.2.1.1 4003)).toNatClampNeg) then (oP (sPp r7.2.1) (fun b10 => if ¬ (r6.1.2 < 0 ∨ (sN r7.2.1 (pR0 ((sKd r7.2.1 b10)))) ≤ r6.1.2.toNatClampNeg) then (if (((uA r7.2.1 (pR0 ((sKd r7.2.1 b10))) r6.1.2.toNatClampNeg ((42 ||| ((((((r7.2.1.2.2.1 (pR18 b8) ((r7.2.1.1 4003)).toNatClampNeg)) - ((σ.2.2.1 (pR18 b2) ((σ.1 4003)).toNatClampNeg)))) <<< ((8 : Int32) &&& 31)))))).1 3702)) = 19 then (ox (f_X2_advance k 0 lZ (uA r7.2.1 (pR0 ((sKd r7.2.1 b10))) r6.1.2.toNatClampNeg ((42 ||| ((((((r7.2.1.2.2.1 (pR18 b8) ((r7.2.1.1 4003)).toNatClampNeg)) - ((σ.2.2.1 (pR18 b2) ((σ.1 4003)).toNatClampNeg)))) <<< ((8 : Int32) &&& 31))))))) (fun r13 => ox (f_X5_exp k 0 (lI lZ 1 0) r13.2.1) (fun r14 => oP (sPp r14.2.1) (fun b15 => oP (sPp r14.2.1) (fun b16 => ox (f_X7_emit__P k 0 (lI (lI (lB lZ 0 b16) 1 4) 2 0) r14.2.1) (fun r17 => op (y_X7_aim__P k 0 (lI (lI (lB lZ 0 b15) 1 r17.1.2) 2 (((uA r7.2.1 (pR0 ((sKd r7.2.1 b10))) r6.1.2.toNatClampNeg ((42 ||| ((((((r7.2.1.2.2.1 (pR18 b8) ((r7.2.1.1 4003)).toNatClampNeg)) - ((σ.2.2.1 (pR18 b2) ((σ.1 4003)).toNatClampNeg)))) <<< ((8 : Int32) &&& 31)))))).1 4015))) r17.2.1) (fun r18 => f_F3 k d 1 1 (lI (lI (lI (lI (lI (lI L 1 ((σ.1 (fP b1 11)))) 2 ((σ.1 4011))) 3 ((σ.2.2.1 (pR18 b2) ((σ.1 4003)).toNatClampNeg))) 5 ((((r7.2.1.2.2.1 (pR18 b8) ((r7.2.1.1 4003)).toNatClampNeg)) - ((σ.2.2.1 (pR18 b2) ((σ.1 4003)).toNatClampNeg))))) 6 (((uA r7.2.1 (pR0 ((sKd r7.2.1 b10))) r6.1.2.toNatClampNeg ((42 ||| ((((((r7.2.1.2.2.1 (pR18 b8) ((r7.2.1.1 4003)).toNatClampNeg)) - ((σ.2.2.1 (pR18 b2) ((σ.1 4003)).toNatClampNeg)))) <<< ((8 : Int32) &&& 31)))))).1 4014))) 7 (((uA r7.2.1 (pR0 ((sKd r7.2.1 b10))) r6.1.2.toNatClampNeg ((42 ||| ((((((r7.2.1.2.2.1 (pR18 b8) ((r7.2.1.1 4003)).toNatClampNeg)) - ((σ.2.2.1 (pR18 b2) ((σ.1 4003)).toNatClampNeg)))) <<< ((8 : Int32) &&& 31)))))).1 4015))) r18.2))))))) else (f_F3 k d 1 1 (lI (lI (lI (lI (lI (lI L 1 ((σ.1 (fP b1 11)))) 2 ((σ.1 4011))) 3 ((σ.2.2.1 (pR18 b2) ((σ.1 4003)).toNatClampNeg))) 5 ((((r7.2.1.2.2.1 (pR18 b8) ((r7.2.1.1 4003)).toNatClampNeg)) - ((σ.2.2.1 (pR18 b2) ((σ.1 4003)).toNatClampNeg))))) 6 (((uA r7.2.1 (pR0 ((sKd r7.2.1 b10))) r6.1.2.toNatClampNeg ((42 ||| ((((((r7.2.1.2.2.1 (pR18 b8) ((r7.2.1.1 4003)).toNatClampNeg)) - ((σ.2.2.1 (pR18 b2) ((σ.1 4003)).toNatClampNeg)))) <<< ((8 : Int32) &&& 31)))))).1 4014))) 7 (((uA r7.2.1 (pR0 ((sKd r7.2.1 b10))) r6.1.2.toNatClampNeg ((42 ||| ((((((r7.2.1.2.2.1 (pR18 b8) ((r7.2.1.1 4003)).toNatClampNeg)) - ((σ.2.2.1 (pR18 b2) ((σ.1 4003)).toNatClampNeg)))) <<< ((8 : Int32) &&& 31)))))).1 4015))) (uA r7.2.1 (pR0 ((sKd r7.2.1 b10))) r6.1.2.toNatClampNeg ((42 ||| ((((((r7.2.1.2.2.1 (pR18 b8) ((r7.2.1.1 4003)).toNatClampNeg)) - ((σ.2.2.1 (pR18 b2) ((σ.1 4003)).toNatClampNeg)))) <<< ((8 : Int32) &&& 31)))))))) else none)) else none)))))) else none))) := rfl
theorem fr1_1 (k d : Nat) (L : LV) (σ : CS) : f_F3 (k + 1) d 1 1 L σ = (ox (f_X5_expect k 0 (lI lZ 1 44) σ) (fun r1 => of d (fun e2 => ox (f_F3 k e2 3 0 (lI lZ 1 ((L.1 7))) r1.2.1) (fun r2 => oP (sPp r2.2.1) (fun b3 => oP (sPp r2.2.1) (fun b4 => if ¬ (((((L.1 6)) + 1)) < 0 ∨ (sN r2.2.1 (pR0 ((sKd r2.2.1 b3)))) ≤ ((((L.1 6)) + 1)).toNatClampNeg) then (f_F3 k d 1 2 (lI L 8 ((L.1 2))) (uA r2.2.1 (pR0 ((sKd r2.2.1 b3))) ((((L.1 6)) + 1)).toNatClampNeg ((((r2.2.1.1 (fP b4 1))) - ((L.1 6)))))) else none)))))) := rfl
theorem fr1_2 (k d : Nat) (L : LV) (σ : CS) : f_F3 (k + 1) d 1 2 L σ = (if ((σ.1 4011)) ≤ ((((L.1 8)) + 2)) then (f_F3 k d 1 3 L σ) else (oP (sPp σ) (fun b2 => if ¬ (((L.1 8)) < 0 ∨ (sN σ 41) ≤ ((L.1 8)).toNatClampNeg) then (ox (f_X7_emit__P k 0 (lI (lI (lB lZ 0 b2) 1 73) 2 ((σ.2.2.1 41 ((L.1 8)).toNatClampNeg))) σ) (fun r4 => oP (sPp r4.2.1) (fun b5 => if ¬ (((((L.1 8)) + 1)) < 0 ∨ (sN r4.2.1 41) ≤ ((((L.1 8)) + 1)).toNatClampNeg) then (ox (f_X7_word__P k 0 (lI (lB lZ 0 b5) 1 ((r4.2.1.2.2.1 41 ((((L.1 8)) + 1)).toNatClampNeg))) r4.2.1) (fun r7 => oP (sPp r7.2.1) (fun b8 => if ¬ (((((L.1 8)) + 2)) < 0 ∨ (sN r7.2.1 41) ≤ ((((L.1 8)) + 2)).toNatClampNeg) then (ox (f_X7_word__P k 0 (lI (lB lZ 0 b8) 1 ((r7.2.1.2.2.1 41 ((((L.1 8)) + 2)).toNatClampNeg))) r7.2.1) (fun r10 => f_F3 k d 1 2 (lI L 8 ((((L.1 8)) + 3))) r10.2.1)) else none))) else none))) else none))) := rfl
theorem fr1_3 (k d : Nat) (L : LV) (σ : CS) : f_F3 (k + 1) d 1 3 L σ = (oP (sPp σ) (fun b1 => ox (f_X7_emit__P k 0 (lI (lI (lB lZ 0 b1) 1 37) 2 ((L.1 5))) σ) (fun r2 => oP (sPp (uI r2.2.1 4011 ((L.1 2)))) (fun b3 => if ¬ ((((uI r2.2.1 4011 ((L.1 2))).1 4003)) < 0 ∨ 42 ≤ (((uI r2.2.1 4011 ((L.1 2))).1 4003)).toNatClampNeg) then (oP (sPp (uA (uI r2.2.1 4011 ((L.1 2))) (pR18 b3) (((uI r2.2.1 4011 ((L.1 2))).1 4003)).toNatClampNeg ((L.1 3)))) (fun b5 => f_F3 k d 1 4 L (uI (uA (uI r2.2.1 4011 ((L.1 2))) (pR18 b3) (((uI r2.2.1 4011 ((L.1 2))).1 4003)).toNatClampNeg ((L.1 3))) (fP b5 11) ((L.1 1))))) else none)))) := rfl
theorem fr1_4 (k d : Nat) (L : LV) (σ : CS) : f_F3 (k + 1) d 1 4 L σ = (some ((0, 0), σ, (0, 0))) := rfl
/-- DROP, and all as it was before the for -/
theorem c_for3 {t : α} {x5 : Int32} (h : Zy T n b u al σ0 nc0 sz0 mk0 a1 a2 (tb ++ es) o q v mk' w' st lo qh szB cs τ) (hu : u < 42) (hm : mk ≤ mk') (h0 : mk0 ≤ mk) (hnc : nc0 ≤ tb.length) (hs : szB + cs.length + 1 ≤ 36864) (l5 : L.1 5 = x5) (l2 : L.1 2 = nI mk) (l3 : L.1 3 = nI w) (l1 : L.1 1 = nI tb.length) (fin : ∀ (τ' : CS) (n1 n2 : Nat), Zy T n b u al σ0 nc0 sz0 mk0 (a1 + n1) (a2 + n2) tb o q v mk w st lo qh szB (cs ++ [em 37 x5]) τ' → S t 0 τ') : Tm (fun k => f_F3 k d 1 3 L τ) (ZPo b u nc0 sz0 mk0 (Sum.inr t) S σ0 a1 a2) := by
  have i42 : ¬ (nI u < 0 ∨ 42 ≤ (nI u).toNatClampNeg) := u_in (by rw [u_n (by omega)]; omega) (by decide)
  have fc := fP_c b 3
  have fc1 := fP_c b 11
  refine Tm_suc (fun k => fr1_3 k _ _ _) ?_
  refine Tm_oP (Zy_pp h) ?_
  refine zt_emit (op := 37) h rfl rfl hs (fun τ1 n1 n2 s1 xk1 => ?_)
  have s1' : Zy T n b u al σ0 nc0 sz0 mk0 (a1 + n1) (a2 + n2) (tb ++ es) o q v mk' w' st lo qh szB (cs ++ [em 37 x5]) τ1 := by rw [← l5]; exact s1
  have s2 : Zy T n b u al σ0 nc0 sz0 mk0 (a1 + n1) (a2 + n2) (tb ++ es) o q v mk w' st lo qh szB (cs ++ [em 37 x5]) (uI τ1 4011 (L.1 2)) := Zy_g s1' (fun j hj => uI_o (by omega)) rfl (by rw [uI_s]; exact l2) hm h0 (ZF_e s1'.2.2 (fun j hj => uI_o (by omega)) rfl rfl)
  refine Tm_oP (Zy_pp s2) ?_
  have e03 : (uI τ1 4011 (L.1 2)).1 4003 = nI u := s2.1.1.2.2.2.2.1.2.1
  have go : Tm (fun k => if ¬ ((uI τ1 4011 (L.1 2)).1 4003 < 0 ∨ 42 ≤ ((uI τ1 4011 (L.1 2)).1 4003).toNatClampNeg) then (oP (sPp (uA (uI τ1 4011 (L.1 2)) (pR18 b) ((uI τ1 4011 (L.1 2)).1 4003).toNatClampNeg (L.1 3))) (fun b5 => f_F3 k d 1 4 L (uI (uA (uI τ1 4011 (L.1 2)) (pR18 b) ((uI τ1 4011 (L.1 2)).1 4003).toNatClampNeg (L.1 3)) (fP b5 11) (L.1 1)))) else none) (ZPo b u nc0 sz0 mk0 (Sum.inr t) S σ0 (a1 + n1) (a2 + n2)) := by
    rw [e03]
    refine Tm_chk i42 ?_
    rw [n_cl (p := u) (by omega)]
    have zf2 := s2.2.2
    have s3 : Zy T n b u al σ0 nc0 sz0 mk0 (a1 + n1) (a2 + n2) (tb ++ es) o q v mk w st lo qh szB (cs ++ [em 37 x5]) (uA (uI τ1 4011 (L.1 2)) (pR18 b) u (L.1 3)) := Zy_r s2 (Or.inr rfl) ⟨by rw [uA_r, upd_same]; exact l3, zf2.2⟩
    refine Tm_oP (Zy_pp s3) ?_
    have s4 := Zy_tb s3 (TbQ_tk s3.1.1.2.2.2.1) hnc hnc
    rw [l1]
    refine Tm_suc (fun k => fr1_4 k _ _ _) ?_
    exact Tm_some (Zfin s4 (fin _ _ _ s4))
  exact go
/-- FOR_CLEARs -/
theorem c_for2L {mkE : Nat} {cs0 : List Int32} {pl0 : List (Nat × Nat × Nat)} (hm9 : mkE ≤ 21504) (cont : ∀ (L' : LV) (τ' : CS) (n1 n2 : Nat), (∀ j, ¬ j = 8 → L'.1 j = L.1 j) → Zy T n b u al σ0 nc0 sz0 mk0 n1 n2 tb o q v mkE w st lo qh szB (cs0 ++ fcL pl0) τ' → Tm (fun k => f_F3 k d 1 3 L' τ') (ZPo b u nc0 sz0 mk0 x S σ0 n1 n2)) : ∀ (rest : List (Nat × Nat × Nat)) (j : Nat) (L' : LV) (τ : CS) (a1 a2 : Nat) (cs : List Int32), cs ++ fcL rest = cs0 ++ fcL pl0 → (∀ i, i < 3 * rest.length → τ.2.2.1 41 (j + i) = (mkF3 rest).getD i 0) → mkE = j + 3 * rest.length → L'.1 8 = nI j → (∀ j, ¬ j = 8 → L'.1 j = L.1 j) → szB + cs.length + 3 * rest.length ≤ 36864 → Zy T n b u al σ0 nc0 sz0 mk0 a1 a2 tb o q v mkE w st lo qh szB cs τ → Tm (fun k => f_F3 k d 1 2 L' τ) (ZPo b u nc0 sz0 mk0 x S σ0 a1 a2) := by
  intro rest
  induction rest with
  | nil =>
    intro j L' τ a1 a2 cs ec mks eE l8 lj hs s1
    have e11 : τ.1 4011 = nI mkE := s1.1.1.2.2.1.1
    have eE' : mkE = j := eE
    refine Tm_suc (fun k => fr1_2 k _ _ _) ?_
    rw [e11, l8]
    refine Tm_yes (by show nI mkE ≤ nI j + nI 2; rw [n_add (by omega), n_le (by omega) (by omega)]; omega) ?_
    have ec' : cs = cs0 ++ fcL pl0 := by rw [← ec]; show cs = cs ++ []; rw [List.append_nil]
    rw [ec'] at s1
    exact cont L' τ a1 a2 lj s1
  | cons e rest ih =>
    intro j L' τ a1 a2 cs ec mks eE l8 lj hs s1
    have el : (e :: rest).length = rest.length + 1 := rfl
    rw [el] at mks eE hs
    have e11 : τ.1 4011 = nI mkE := s1.1.1.2.2.1.1
    have b41 : mkE ≤ sN τ 41 := s1.1.1.2.2.1.2.1
    have m0 : τ.2.2.1 41 j = nI e.1 := mks 0 (by omega)
    have m1 : τ.2.2.1 41 (j + 1) = nI e.2.1 := mks 1 (by omega)
    have m2 : τ.2.2.1 41 (j + 2) = nI e.2.2 := mks 2 (by omega)
    have a81 : nI j + 1 = nI (j + 1) := n_add1 j
    have a82 : nI j + 2 = nI (j + 2) := n_add (q := 2) (by omega)
    have a83 : nI j + 3 = nI (j + 3) := n_add (q := 3) (by omega)
    refine Tm_suc (fun k => fr1_2 k _ _ _) ?_
    rw [e11, l8, a82, a83, a81]
    refine Tm_no (by rw [n_le (by omega) (by omega)]; omega) ?_
    refine Tm_oP (Zy_pp s1) ?_
    refine Tm_chk (n_in (n := sN τ 41) (by omega) (by omega)) ?_
    rw [n_cl (p := j) (by omega), m0]
    refine zt_emit (op := 73) s1 rfl rfl (by omega) (fun τ2 n1 n2 s2 xk2 => ?_)
    refine Tm_oP (Zy_pp s2) ?_
    have b42 : mkE ≤ sN τ2 41 := s2.1.1.2.2.1.2.1
    refine Tm_chk (n_in (n := sN τ2 41) (by omega) (by omega)) ?_
    rw [n_cl (p := j + 1) (by omega)]
    have g1 : τ2.2.2.1 41 (j + 1) = nI e.2.1 := (xk2.2.2.2.2.2.2.1 (j + 1) (by omega)).trans m1
    have l1 : (cs ++ [em 73 (nI e.1)]).length = cs.length + 1 := by rw [List.length_append]; rfl
    refine zt_word (L := lI (lB lZ 0 b) 1 (τ2.2.2.1 41 (j + 1))) s2 rfl (by show szB + (cs ++ [em 73 (nI e.1)]).length + 1 ≤ _; rw [l1]; omega) (fun τ3 n3 n4 s3 xk3 => ?_)
    refine Tm_oP (Zy_pp s3) ?_
    have b43 : mkE ≤ sN τ3 41 := s3.1.1.2.2.1.2.1
    refine Tm_chk (n_in (n := sN τ3 41) (by omega) (by omega)) ?_
    rw [n_cl (p := j + 2) (by omega)]
    have g2 : τ3.2.2.1 41 (j + 2) = nI e.2.2 := (xk3.2.2.2.2.2.2.1 (j + 2) (by omega)).trans ((xk2.2.2.2.2.2.2.1 (j + 2) (by omega)).trans m2)
    have l2 : (cs ++ [em 73 (nI e.1)] ++ [nI e.2.1]).length = cs.length + 2 := by rw [List.length_append, l1]; rfl
    have s3' : Zy T n b u al σ0 nc0 sz0 mk0 (a1 + n1 + n3) (a2 + n2 + n4) tb o q v mkE w st lo qh szB (cs ++ [em 73 (nI e.1)] ++ [nI e.2.1]) τ3 := by rw [← g1]; exact s3
    refine zt_word (L := lI (lB lZ 0 b) 1 (τ3.2.2.1 41 (j + 2))) s3' rfl (by rw [l2]; omega) (fun τ4 n5 n6 s4 xk4 => ?_)
    have s4' : Zy T n b u al σ0 nc0 sz0 mk0 (a1 + n1 + n3 + n5) (a2 + n2 + n4 + n6) tb o q v mkE w st lo qh szB (cs ++ [em 73 (nI e.1)] ++ [nI e.2.1] ++ [nI e.2.2]) τ4 := by rw [← g2]; exact s4
    have ea : cs ++ [em 73 (nI e.1)] ++ [nI e.2.1] ++ [nI e.2.2] = cs ++ [em 73 (nI e.1), nI e.2.1, nI e.2.2] := by simp only [List.append_assoc]; rfl
    have l3 : (cs ++ [em 73 (nI e.1), nI e.2.1, nI e.2.2]).length = cs.length + 3 := by rw [List.length_append]; rfl
    rw [ea] at s4'
    refine ih (j + 3) _ τ4 _ _ _ ?_ (fun i hi => ?_) (by omega) rfl (fun j hj => ?_) (by rw [l3]; omega) s4'
    · rw [← ec, List.append_assoc]; rfl
    · have z := mks (3 + i) (by omega)
      rw [xk4.2.2.2.2.2.2.1 (j + 3 + i) (by omega), xk3.2.2.2.2.2.2.1 (j + 3 + i) (by omega), xk2.2.2.2.2.2.2.1 (j + 3 + i) (by omega), Nat.add_assoc, z, Nat.add_comm 3 i]
      rfl
    · show upd L'.1 8 _ j = _
      rw [upd_other hj]
      exact lj j hj
end CYG
end JnS517
section JnS518
/-! The class: the body of a for. -/
section CYH
variable {σ σ' σ0 τ τ' τ0 : CS} {L : LV} {b : Bool} {T : Nat → Int32} {n q q' u al o v mk mk' p sz sz' szB szE nc nc0 sz0 mk0 a1 a2 m kk f e s0 ow a t0 g D w st w' st' M nm deep vv np lp N Bd nb k d P h st0 b0 it q0 v0 r0 c : Nat} {y qh qh' y0 y1 wd x0 x1 x3 : Int32} {l l' cs cs' cs2 ll lt lt0 co bo : List Int32} {tb tb' es : List Ent} {ns : List Nm} {E : En} {gl : Nat × (Nat → Nat → Prop)} {Vm Vm' : Nat → Prop} {Pc : Nat → Nat → Prop} {MD : Nat → Nat → Nat} {md : Nat → Nat} {bt : BT} {ks qs qs' qa qb js qsI : List Nat} {lo lo' : Option Nat} {s : SB} {α : Type} {S : α → Int32 → CS → Prop} {x : Fl α} {C : Prop} {hd : Bool}
/-- do .. end of a for -/
theorem c_for1 {z : Fl (Nat × Nat × Nat)} {csR : List Int32} {fi la w2 cq cv : Nat} {xm lm : List Nat} {pl : List (Nat × Nat × Nat)} (s1 : Zy T n b u al σ tb.length N mk a1 a2 (tb ++ es) (o + 1) cq cv (mk + 3 * pl.length) w2 st lo qh N cs τ) (fr : FRw u gl Pc Vm w N w2 pl.length fi la xm lm csR) (lcs : cs.length = csR.length) (c1 : cs.getD 1 0 = em 42 (nI (w2 - w))) (ci : ∀ i, i < csR.length → ¬ i = 1 → cs.getD i 0 = csR.getD i 0) (hfi : 2 ≤ fi) (hp : 1 ≤ pl.length) (hvp : v + pl.length ≤ cv) (w200 : w2 ≤ 200) (ple : ∀ e, e ∈ pl → (w ≤ e.1 ∧ e.1 + 1 < w2) ∧ w ≤ e.2.1 ∧ e.2.1 + e.2.2 ≤ w2) (mks : ∀ i, i < 3 * pl.length → τ.2.2.1 41 (mk + i) = (mkF3 pl).getD i 0) (hlen : 2 * cs.length + 6 * pl.length ≤ 7 * (cq - q)) (hq : q < cq) (n10 : n ≤ 10240) (hN : 2 * N + 7 * (n - q) + 110 ≤ 73728) (ho : o < 20) (u42 : u < 42) (k44 : tkK T n cq = 44 ∧ ¬ tkK T n (tkN T n cq) = 0) (blk : ∀ (σ' : CS) (L' : LV), QS T n b u al (tb ++ es) (o + 1) (tkN T n cq) cv (mk + 3 * pl.length) 0 (N + cs.length) σ' → ZF b u w2 st (some (N + la)) 0 σ' → ZK b u tb.length N mk σ σ' → Tm (fun k => f_F3 k d 0 0 L' σ') (ZPo b u (tb ++ es).length (N + cs.length) (mk + 3 * pl.length) z (fun r _ τ => BlR T n b u al gl Pc (VmX Vm xm) (tb ++ es) (o + 1) (mk + 3 * pl.length) (N + cs.length) (tkN T n cq) cv w2 st (some (N + la)) 0 r τ) σ' 0 0)) (l1 : L.1 1 = nI tb.length) (l2 : L.1 2 = nI mk) (l3 : L.1 3 = nI w) (l5 : L.1 5 = nI (w2 - w)) (l6 : L.1 6 = nI (N + fi)) (l7 : L.1 7 = nI (N + la)) : Tm (fun k => f_F3 k (d + 2) 1 1 L τ) (ZPo b u tb.length N mk (lbZ T n z) (fun r _ τ => S1W T n b u al gl Pc Vm tb o mk N q v w st lo qh (bdO o v) r τ) σ a1 a2) := by
  have go1 := tk_go s1.1.1
  have g1 := go1.2.2 (by omega)
  have f3 := fr.1.2.2 hp
  have cv60 : cv ≤ 60 := s1.1.1.2.2.2.2.2.2.1.2
  have mkb : mk + 3 * pl.length ≤ 21504 := by
    have z := s1.1.1.2.2.1
    have z1 : mk + 3 * pl.length ≤ sN τ 41 := z.2.1
    have z2 : sN τ 41 ≤ 21504 := z.2.2
    omega
  refine Tm_suc (fun k => fr1_1 k _ _ _) ?_
  refine zt_expect (kk := 44) (C := True) s1 (by decide) rfl (Or.inr ⟨k44, trivial⟩) (fun τ2 ret2 n1 n2 _ s2 xk2 => ?_)
  refine Tm_d ?_
  have go2 := tk_go s2.1.1
  refine zt_callZ (C := True) s2 (c_loopBody (gl := gl) (Pc := Pc) (Vm := VmX Vm xm) (P := N + la) (z := z) (fun σ' L' hq' zf' zk' => blk σ' L' hq' zf' (ZK_t s2.1.2.1 zk' s2.1.2.2.2.1 s2.1.2.2.2.2.1 s2.1.2.2.2.2.2)) s2.1.1 s2.2.2 n10 (by omega) (by omega) l7) ?_
  cases hz : lbZ T n z with
  | inl yf => exact Or.inl ⟨_, rfl, rfl⟩
  | inr t =>
    refine Or.inr ⟨t, rfl, trivial, fun τ5 ret5 n7 n8 hr zk5 hc5 => ?_⟩
    obtain ⟨cl, bo, qb, nb, r1, r2, r3, r4, ⟨r5, r6, r7, r8⟩, ⟨r9, r9'⟩, ra, rb⟩ := hr
    have s5 := Zy_ca (ll := cl) s2 r1 zk5 hc5 r2 (by rw [List.length_append]; omega) s2.1.2.2.2.2.2 r3
    have l5c : (cs ++ cl).length = cs.length + bo.length + 1 := by rw [List.length_append, r5]; omega
    have go5 := tk_go s5.1.1
    refine Tm_oP (Zy_pp s5) (Tm_oP (Zy_pp s5) ?_)
    have e5 : τ5.1 (fP b 1) = nI (N + (cs.length + bo.length + 1)) := by have z := s5.1.1.2.1.1; rw [l5c] at z; exact z
    have ei : L.1 6 + 1 = nI (N + (fi + 1)) := by rw [l6, n_add1]; exact congrArg nI (by omega)
    have mks5 : ∀ i, i < 3 * pl.length → τ5.2.2.1 41 (mk + i) = (mkF3 pl).getD i 0 := fun i hi => by
      rw [zk5.2.2.2.2.2.2.1 (mk + i) (by omega), xk2.2.2.2.2.2.2.1 (mk + i) (by omega)]; exact mks i hi
    have go : Tm (fun k => if ¬ (L.1 6 + 1 < 0 ∨ sN τ5 (pR0 (sKd τ5 b)) ≤ (L.1 6 + 1).toNatClampNeg) then (f_F3 k (d + 2) 1 2 (lI L 8 (L.1 2)) (uA τ5 (pR0 (sKd τ5 b)) (L.1 6 + 1).toNatClampNeg (τ5.1 (fP b 1) - L.1 6))) else none) (ZPo b u tb.length N mk (Sum.inr t) (fun r _ τ => S1W T n b u al gl Pc Vm tb o mk N q v w st lo qh (bdO o v) r τ) σ (a1 + n1 + n7) (a2 + n2 + n8)) := by
      have ex : τ5.1 (fP b 1) - L.1 6 = nI (cs.length + bo.length + 1 - fi) := by rw [e5, l6]; exact n_ss1 (by omega) (by omega)
      rw [ei, ex]
      refine Tm_chk (Zy_in s5 (by rw [l5c]; omega)) ?_
      rw [n_cl (p := N + (fi + 1)) (by omega)]
      have s6 := Zy_set (hp := fi + 1) s5 (Nat.le_refl _) (by rw [l5c]; omega) (nI (cs.length + bo.length + 1 - fi))
      have mks6 : ∀ i, i < 3 * pl.length → (uA τ5 (pR0 (sKd τ5 b)) (N + (fi + 1)) (nI (cs.length + bo.length + 1 - fi))).2.2.1 41 (mk + i) = (mkF3 pl).getD i 0 := fun i hi => by
        rw [uA_k (by rcases pR0_c (sKd τ5 b) with y | y <;> omega)]; exact mks5 i hi
      generalize hA : (cs ++ cl).set (fi + 1) (nI (cs.length + bo.length + 1 - fi)) = A at *
      have lA : A.length = cs.length + bo.length + 1 := by rw [← hA, List.length_set, l5c]
      have gA : ∀ i, ¬ i = fi + 1 → A.getD i 0 = (cs ++ cl).getD i 0 := fun i hi => by rw [← hA, gd_set, if_neg (fun z => hi z.1)]
      have gA1 : A.getD (fi + 1) 0 = nI (cs.length + bo.length + 1 - fi) := by rw [← hA, gd_set, if_pos ⟨rfl, by rw [l5c]; omega⟩]
      have lf := fcL_l pl
      have hsz : N + (cs.length + bo.length + 1) + 3 * pl.length + 1 ≤ 36864 := by omega
      refine c_for2L (L := L) (cs0 := A) (pl0 := pl) (mkE := mk + 3 * pl.length) mkb (fun L' τ' m1 m2 lj s7 => ?_) pl mk _ _ _ _ A rfl mks6 rfl l2 (fun j hj => upd_other hj) (by rw [lA]; omega) s6
      have lAf : (A ++ fcL pl).length = cs.length + bo.length + 1 + 3 * pl.length := by rw [List.length_append, lA, lf]
      refine c_for3 (x5 := nI (w2 - w)) (mk := mk) (w := w) s7 u42 (by omega) (Nat.le_refl _) (Nat.le_refl _) (by rw [lAf]; omega) ((lj 5 (by decide)).trans l5) ((lj 2 (by decide)).trans l2) ((lj 3 (by decide)).trans l3) ((lj 1 (by decide)).trans l1) (fun τ9 m3 m4 s9 => ?_)
      have l2c : (A ++ fcL pl ++ [em 37 (nI (w2 - w))]).length = cs.length + bo.length + 1 + 3 * pl.length + 1 := by rw [List.length_append, lAf]; rfl
      have g2 : ∀ i, i < cs.length + bo.length + 1 → (A ++ fcL pl ++ [em 37 (nI (w2 - w))]).getD i 0 = A.getD i 0 := fun i hi => (gd_l (by rw [lAf]; omega)).trans (gd_l (by rw [lA]; exact hi))
      have gcl : ∀ i, i < bo.length + 1 → (A ++ fcL pl ++ [em 37 (nI (w2 - w))]).getD (cs.length + i) 0 = cl.getD i 0 := fun i hi => by
        rw [g2 _ (by omega), gA _ (by omega)]
        exact gd_r (a := cs) (b := cl) i
      have ty : Stm u gl Pc Vm w N lo (bdO o v) (nb + 1) [] (A ++ fcL pl ++ [em 37 (nI (w2 - w))]) := by
        rw [lcs] at l2c g2 gcl r4 gA1
        refine Stm_fo (l := pl) (Bd' := bdO (o + 1) cv) (bo := bo) (qb := qb) (nb := nb) fr hp (Vm' := VmX Vm xm) (fun i z => z) (fun i z => Or.inl z) w200 r4 (by unfold bdO; omega) ple l2c (fun i hi h1 h2 => ?_) ?_ ?_ (fun i hi hn => ?_) (fun i hi => ?_) ?_ (fun i hi => ?_) ?_
        · rw [g2 i (by omega), gA i h2, gd_l (by omega)]; exact ci i hi h1
        · rw [g2 1 (by omega), gA 1 (by omega), gd_l (by omega)]; exact c1
        · rw [g2 _ (by omega)]; exact gA1
        · rw [gcl i (by omega)]; exact r6 i hi hn
        · have hb := r4.1.1 i hi
          rw [gcl i (by omega)]; exact r7 i hi
        · rw [gcl _ (by omega), r8]
          rw [lcs]
          have z := n_ss N la (csR.length + bo.length) (by omega) (by omega)
          rw [← z]
          exact congrArg (fun y => em 3 (nI (N + la) - nI y)) (by omega)
        · have y := gd_r (a := A) (b := fcL pl) i
          rw [lA, lcs] at y
          rw [gd_l (by rw [lAf]; omega)]
          exact y
        · have y := gd_r (a := A ++ fcL pl) (b := [em 37 (nI (w2 - w))]) 0
          rw [lAf, lcs] at y
          exact y
      refine ⟨_, [], nb + 1, s9.1.1, s9.2.1, s9.2.2, ty, trivial, ⟨by rw [l2c]; omega, by omega, Nat.zero_le _⟩, by omega, by omega⟩
    exact go
end CYH
end JnS518
section JnS519
/-! The class: fors, from do on. -/
section CYI
variable {σ σ' σ0 τ τ' τ0 : CS} {L : LV} {b : Bool} {T : Nat → Int32} {n q q' u al o v mk mk' p sz sz' szB szE nc nc0 sz0 mk0 a1 a2 m kk f e s0 ow a t0 g D w st w' st' M nm deep vv np lp N Bd nb k d P h st0 b0 it q0 v0 r0 c : Nat} {y qh qh' y0 y1 wd x0 x1 x3 : Int32} {l l' cs cs' cs2 ll lt lt0 co bo : List Int32} {tb tb' es : List Ent} {ns : List Nm} {E : En} {gl : Nat × (Nat → Nat → Prop)} {Vm Vm' : Nat → Prop} {Pc : Nat → Nat → Prop} {MD : Nat → Nat → Nat} {md : Nat → Nat} {bt : BT} {ks qs qs' qa qb js qsI : List Nat} {lo lo' : Option Nat} {s : SB} {α : Type} {S : α → Int32 → CS → Prop} {x : Fl α} {C : Prop} {hd : Bool}
/-- how a for stands behind its iters -/
def FoS (T : Nat → Int32) (n : Nat) (b : Bool) (u al : Nat) (gl : Nat × (Nat → Nat → Prop)) (Pc : Nat → Nat → Prop) (Vm : Nat → Prop) (σ : CS) (a1 a2 : Nat) (tb : List Ent) (o mk N w st : Nat) (lo : Option Nat) (qh : Int32) (q v : Nat) (E' : En) (cq cv : Nat) (L : LV) (τ : CS) : Prop := ∃ (es : List Ent) (cs csR : List Int32) (w2 fi la : Nat) (xm lm : List Nat) (pl : List (Nat × Nat × Nat)), Zy T n b u al σ tb.length N mk a1 a2 (tb ++ es) (o + 1) cq cv (mk + 3 * pl.length) w2 st lo qh N cs τ ∧ FRw u gl Pc Vm w N w2 pl.length fi la xm lm csR ∧ (cs.length = csR.length ∧ cs.getD 1 0 = em 42 (nI (w2 - w)) ∧ ∀ i, i < csR.length → ¬ i = 1 → cs.getD i 0 = csR.getD i 0) ∧ (2 ≤ fi ∧ 1 ≤ pl.length ∧ v + pl.length ≤ cv ∧ w2 ≤ 3 * cv) ∧ (∀ e, e ∈ pl → (w ≤ e.1 ∧ e.1 + 1 < w2) ∧ w ≤ e.2.1 ∧ e.2.1 + e.2.2 ≤ w2) ∧ (∀ i, i < 3 * pl.length → τ.2.2.1 41 (mk + i) = (mkF3 pl).getD i 0) ∧ (2 * cs.length + 6 * pl.length ≤ 7 * (cq - q) ∧ q < cq) ∧ NmR E' u gl (VmX Vm xm) (tb ++ es) ∧ (∀ i, i < (tb ++ es).length → ¬ ((tb ++ es).getD i e0E).2.1 = 3) ∧ ((tb ++ es).length + (60 - cv) ≤ 256 ∧ mk + 3 * pl.length ≤ 2 * cq + 18 * (o + 1)) ∧ (L.1 1 = nI tb.length ∧ L.1 2 = nI mk ∧ L.1 3 = nI w) ∧ L.1 5 = nI (w2 - w) ∧ L.1 6 = nI (N + fi) ∧ L.1 7 = nI (N + la)
theorem EvX_f {E' : En} {tb2 : List Ent} {Vm2 : Nat → Prop} (h : EvX E b u al gl Vm tb σ) (nm : NmR E' u gl Vm2 tb2) (he : E'.2.2.2 = E.2.2.2) : EvX E' b u al gl Vm2 tb2 σ := ⟨nm, h.2.1, h.2.2.1, by rw [he]; exact h.2.2.2.1, by rw [he]; exact h.2.2.2.2⟩
theorem PcE_f (h : PcE E Pc) : PcE (seeN E ns) Pc := fun bs ok hf => by
  by_cases c : ∃ nm, nm ∈ ns ∧ nm.1 = bs
  · rw [fd_in c] at hf; exact absurd hf (by decide)
  · rw [fd_out c] at hf ⊢
    exact h bs ok hf
/-- from do on -/
theorem c_forT {cq cv b0 : Nat} {bc : BT} {nd : ST → Nat} {bb : ST → BT} {y : Fl ST} (pb : PBk T n b u al MD f) (hq : cq ≤ n) (hv : cv ≤ 60) (hs : s.1 ≤ 400) (hB1 : 1 ≤ bc.1) (hG : hW T n 44 cq (fun q3 => hb (GS T n MD f 0 (seeN E ns) (lp + 1) (o + 1) q3 cv (nI b0) 0 0 bc s) (fun t => hE T n t.1 (fun q4 => some (Sum.inr (q4, t.2.1, 0, nd t, bb t, t.2.2.2.2.2))))) = some y) : ∃ z, SemS T n y z ∧ ∀ (d : Nat) (gl : Nat × (Nat → Nat → Prop)) (Pc : Nat → Nat → Prop) (Vm : Nat → Prop) (tb : List Ent) (mk N w q v a1 a2 : Nat) (lo : Option Nat) (qh : Int32) (σ τ : CS) (L : LV), CxS n E b u al gl Vm Pc MD tb lp lo σ → BdB n o q v mk N w tb.length → 4 * (20 - (o + 1)) + 1 ≤ d → o < 20 → FoS T n b u al gl Pc Vm σ a1 a2 tb o mk N w s.1 lo qh q v (seeN E ns) cq cv L τ → Tm (fun k => f_F3 k (d + 2) 1 1 L τ) (ZPo b u tb.length N mk z (fun r _ τ => S1W T n b u al gl Pc Vm tb o mk N q v w s.1 lo qh (bdO o v) r τ) σ a1 a2) := by
  rcases hW_any hG with ⟨w1, w2⟩ | ⟨w1, w2⟩
  · refine ⟨Sum.inl (wF T n 44 cq), Or.inl ⟨_, rfl, w2⟩, fun d gl Pc Vm tb mk N w q v a1 a2 lo qh σ τ L cx bd hd ho fs => ?_⟩
    obtain ⟨es, cs, csR, w2', fi, la, xm, lm, pl, s1, _⟩ := fs
    refine Tm_suc (fun k => fr1_1 k _ _ _) ?_
    exact zt_expect (kk := 44) (C := False) s1 (by decide) rfl (Or.inl ⟨w1, rfl⟩) (fun _ _ _ _ c _ _ => c.elim)
  have tb1 := tkN_b T n cq hq
  have gz : ∃ x, GS T n MD f 0 (seeN E ns) (lp + 1) (o + 1) (tkN T n cq) cv (nI b0) 0 0 bc s = some x := by
    rcases hb_any w2 with ⟨yf, y1, _⟩ | ⟨_, y1, _⟩
    · exact ⟨_, y1⟩
    · exact ⟨_, y1⟩
  obtain ⟨x, hx⟩ := gz
  rw [hx] at w2
  obtain ⟨z, bz, run⟩ := pb (seeN E ns) (lp + 1) (o + 1) (tkN T n cq) cv (nI b0) 0 0 bc s x tb1.2.1 hv hs hB1 hx
  refine ⟨lbZ T n z, hE_z bz w2, fun d gl Pc Vm tb mk N w q v a1 a2 lo qh σ τ L cx bd hd ho fs => ?_⟩
  obtain ⟨es, cs, csR, w2', fi, la, xm, lm, pl, s1, fr, ⟨f1, f2, f3⟩, ⟨f4, f5, f6, f6'⟩, f7, f8, ⟨f9, f9'⟩, nm, n3, ⟨nt, mb⟩, ⟨l1, l2, l3⟩, l5, l6, l7⟩ := fs
  obtain ⟨bd1, bd2, bd3, bd4⟩ := bd
  have n10 := cx.1.2.2.2.2
  have g1 := (tk_go s1.1.1).2.2 (by omega)
  have f33 := fr.1.2.2 f5
  refine c_for1 s1 fr f1 f2 f3 f4 f5 f6 (by omega) f7 f8 f9 f9' n10 bd1 ho (by have := cx.2.2.1; omega) w1 (fun σ' L' hq' zf' zk' => ?_) l1 l2 l3 l5 l6 l7
  have cx' : CxS n (seeN E ns) b u al gl (VmX Vm xm) Pc MD (tb ++ es) (lp + 1) (some (N + la)) σ' := ⟨⟨EvX_f (EvX_z cx.1.1 zk') nm rfl, PcR_k cx.1.2.1 zk', PcE_f cx.1.2.2.1, n3, n10⟩, cx.2.1, cx.2.2.1, ⟨fun z => by omega, fun z => by cases z⟩, fun p e => by cases e; omega⟩
  exact run d gl Pc (VmX Vm xm) (tb ++ es) (mk + 3 * pl.length) (N + cs.length) w2' (some (N + la)) 0 σ' L' hq' zf' cx' ⟨by omega, by omega, by omega, f6'⟩ hd
end CYI
end JnS519
