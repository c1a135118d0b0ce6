/-! The class: what a call gives back goes into a target. -/
section CXL
variable {σ σ' σ0 τ τ' τ0 : CS} {L : LV} {b : Bool} {T : Nat → Int32} {n q q' u al o v mk mk' p sz szB szE nc nc0 sz0 mk0 a1 a2 m kk f e s ow a t0 g D op w st w' st' M nm deep vv np : Nat} {y qh qh' : Int32} {l l' cs cs' ll lt lt0 : List Int32} {tb : List Ent} {E : En} {gl : Nat × (Nat → Nat → Prop)} {Vm : Nat → Prop} {Pc : Nat → Nat → Prop} {MD : Nat → Nat → Nat} {md : Nat → Nat} {bt : BT} {ks : List Nat} {lo lo' : Option Nat} {α : Type} {S S' : α → Int32 → CS → Prop} {x : Option α} {C : Prop}
/-- a call within, told from the method's own beginning on -/
theorem zt_callO {β : Type} {z : Option β} {R : β → Int32 → CS → Prop} {g : Nat → Option RS} {f : Nat → RS → Option RS} (t : Tm g (ZPo b u nc0 sz0 mk0 z R σ0 a1 a2)) (hx : (z = none ∧ x = none) ∨ ∃ s, z = some s ∧ C ∧ ∀ (τ' : CS) (ret : Int32) (n1 n2 : Nat), R s ret τ' → ZK b u nc0 sz0 mk0 σ0 τ' → (a1 + n1 + PhC τ' ≤ PhC σ0 ∧ a2 + n2 + PhS τ' ≤ PhS σ0) → Tm (fun k => f k ((0, ret), τ', (n1, n2))) (ZPo b u nc0 sz0 mk0 x S σ0 (a1 + n1) (a2 + n2))) : Tm (fun k => ox (g k) (f k)) (ZPo b u nc0 sz0 mk0 x S σ0 a1 a2) := by
  refine Tm_ox t (fun r w nz => ?_) (fun r w e0 => ?_)
  · rcases hx with ⟨e1, e2⟩ | ⟨s, e1, _⟩
    · rw [e2]
      exact ⟨fun t' e => (by cases e), fun _ => w.2.1 e1, fun z => absurd z nz, fun z => w.2.2.2.1 z, w.2.2.2.2⟩
    · exact absurd (w.1 s e1).1 nz
  · rcases hx with ⟨e1, e2⟩ | ⟨s, e1, c, cont⟩
    · exact absurd (w.2.1 e1) (by rw [e0]; decide)
    · have y := w.2.2.1 e0
      have k := cont r.2.1 r.1.2 r.2.2.1 r.2.2.2 (w.1 s e1).2 w.2.2.2.2 y
      have er : ((0, r.1.2), r.2.1, (r.2.2.1, r.2.2.2)) = r := by
        rw [← e0]
      rw [er] at k
      exact Tm_mono k (fun q z => ZPo_s z)
/-- a method that began later -/
theorem Z_re {g : Nat → Option RS} (h : Zy T n b u al σ0 nc0 sz0 mk0 a1 a2 tb o q v mk w st lo qh szB cs τ) (t : Tm g (ZPo b u tb.length (szB + cs.length) mk x S τ 0 0)) : Tm g (ZPo b u nc0 sz0 mk0 x S σ0 a1 a2) := by
  obtain ⟨⟨h1, h2, h3, h4, h5, h6⟩, _⟩ := h
  refine Tm_mono t (fun r w => ⟨w.1, w.2.1, fun e => ?_, fun e => ?_, ZK_t h2 w.2.2.2.2 h4 h5 h6⟩)
  · have y := w.2.2.1 e; omega
  · have y := w.2.2.2.1 e; omega
theorem Z_w {g : Nat → Option RS} (t : Tm g (ZPo b u nc0 sz0 mk0 x S σ0 a1 a2)) (i : ∀ t y τ, S t y τ → S' t y τ) : Tm g (ZPo b u nc0 sz0 mk0 x S' σ0 a1 a2) := Tm_mono t (fun r w => ⟨fun t e => ⟨(w.1 t e).1, i t _ _ (w.1 t e).2⟩, w.2⟩)
/-- a target whose name is found -/
theorem c_targetN {i : Nat} {x : Option RT} {e1 : Nat} {bt1 : BT} (h : QS T n b u al tb o q v mk p sz σ) (ev : EvX E b u al gl Vm tb σ) (n10 : n ≤ 10240) (hmk : mk ≤ 2 * q + 18 * o) (hsz : 2 * sz + 3 * (n - q) + 100 ≤ 73728) (hnt : tb.length + (60 - v) ≤ 256) (hp : p ≤ 3 * v) (hi : i < tb.length) (hs : (tb.getD i e0E).2.2.2.1 = s ∧ (tb.getD i e0E).2.2.1 = ow) (l1 : L.1 1 = nI i) (hG : G T n f 12 E o q v 1 e1 0 0 bt1 = some x) : Tm (fun k => f_X5_target k 0 L σ) (QPo b u tb.length sz mk x (fun r y τ => TtR T n b u al gl Vm tb o mk p sz q v s ow r y τ) σ 0 0) := by
  have t256 := h.2.2.2.1.2.1
  refine Tm_suc (fun k => by rw [f_X5_target]) ?_
  refine Tm_no (by rw [l1]; exact n_mn (by omega)) ?_
  exact c_tg1 h ev n10 hmk hsz hnt hp hi hs l1 hG
theorem c_assignR (h : QS T n b u al tb o q v mk 0 sz τ) (hu : u < 42) (tm : TgM τ t0 s ow ks) (ht : t0 + 4 + ks.length ≤ mk) (kl : ks.length ≤ 30000) (hg : g = if ow = u then 0 else 1) (how : ow < 42) (hv : vv < 42) (hn8 : np ≤ 8) (h14 : τ.2.2.1 (pR14 b) vv = nI np) (hm : sz + 5 + ks.length ≤ 36864) (l1 : L.1 1 = nI t0) (l2 : L.1 2 = nI vv) : Tm (fun k => f_X5_assignResult k 0 L τ) (QPo b u tb.length sz mk (some ()) (fun _ _ τ' => QS T n b u al tb o q v mk 0 (sz + ([em 38 (nI (wdN ks + np))] ++ (rwL (192 + g) s (wdN ks + 1) ks ++ [em 37 (nI (wdN ks + 2 + np))])).length) τ' ∧ (∀ i, i < ([em 38 (nI (wdN ks + np))] ++ (rwL (192 + g) s (wdN ks + 1) ks ++ [em 37 (nI (wdN ks + 2 + np))])).length → cdr b τ' (sz + i) = ([em 38 (nI (wdN ks + np))] ++ (rwL (192 + g) s (wdN ks + 1) ks ++ [em 37 (nI (wdN ks + 2 + np))])).getD i 0)) τ 0 0) := by
  have s0 := Sy_0 h
  have sn := h.2.2.1
  have sn1 := sn.2.1
  have sn2 := sn.2.2
  have wb := wdN_b ks
  have e12 : L.1 1 + 2 = nI (t0 + 2) := by rw [l1]; exact n_add (q := 2) (by omega)
  have k1 : τ.2.2.1 41 (nI (t0 + 2)).toNatClampNeg = nI (wdN ks) := by rw [n_cl (by omega)]; exact tm.1.2.2.1
  have ea2 : nI (wdN ks) + 2 = nI (wdN ks + 2) := n_add (q := 2) (by omega)
  refine Tm_suc (fun k => by rw [f_X5_assignResult]) ?_
  rw [e12]
  refine Tm_chk (n_in (by omega) (by omega)) ?_
  refine Tm_oP (Sy_pp s0) (Tm_oP (Sy_pp s0) ?_)
  rw [l2]
  refine Tm_chk (n_in (by omega) (by omega)) ?_
  have e14 : τ.2.2.1 (pR14 b) (nI vv).toNatClampNeg = nI np := by rw [n_cl (by omega)]; exact h14
  rw [k1, e14, ea2, n_add1, n_add (by omega)]
  refine st_emit (op := 38) s0 rfl rfl (by show sz + 0 + 1 ≤ _; omega) (fun τ1 n1 n2 s1 => ?_)
  have tm1 := TgM_k tm s1.1.2.1 ht
  refine st_emitT (op := 192) (D := wdN ks + 1) s1 hu tm1 ht hg how (by decide) (by show sz + 1 + 3 + _ ≤ _; omega) rfl l1 rfl (fun τ2 ret2 n3 n4 s2 xk2 => ?_)
  refine Tm_oP (Sy_pp s2) (Tm_oP (Sy_pp s2) ?_)
  refine Tm_chk (n_in (by omega) (by omega)) ?_
  have pd := pR_d b
  have e14' : τ2.2.2.1 (pR14 b) (nI vv).toNatClampNeg = nI np := by rw [s2.1.2.1.2.1.1 (pR14 b) (by omega)]; exact e14
  rw [e14', n_add (by omega)]
  have lr : ∀ w : Int32, ([] ++ [w] ++ rwL (192 + g) s (wdN ks + 1) ks).length = ks.length + 4 := fun w => by rw [List.length_append, rwL_l]; show 1 + (ks.length + 3) = _; omega
  refine st_emit (op := 37) s2 rfl rfl (by rw [lr]; omega) (fun τ3 n5 n6 s3 => ?_)
  have ea : [] ++ [em 38 (nI (wdN ks + np))] ++ rwL (192 + g) s (wdN ks + 1) ks ++ [em 37 (nI (wdN ks + 2 + np))] = [em 38 (nI (wdN ks + np))] ++ (rwL (192 + g) s (wdN ks + 1) ks ++ [em 37 (nI (wdN ks + 2 + np))]) := by simp only [List.append_assoc, List.nil_append]
  have s3' : Sy T n b u al τ tb.length sz mk (0 + n1 + n3 + n5) (0 + n2 + n4 + n6) tb o q v mk 0 sz ([em 38 (nI (wdN ks + np))] ++ (rwL (192 + g) s (wdN ks + 1) ks ++ [em 37 (nI (wdN ks + 2 + np))])) τ3 := by rw [← ea]; exact s3
  exact Tm_some (Qfin s3'.1 ⟨s3'.1.1, s3'.2⟩)
/-- a call's value is written, and all is dropped -/
theorem Sse_ar (tv : TgV u gl Vm s ow) (hg : g = if ow = u then 0 else 1) (h1 : gl.1 ≤ 1000) (ko : kOK ks) (kl : ks.length ≤ 30000) (hn : np ≤ 8) : Sse u gl Pc Vm [] 0 (1 + np + wdN ks) 0 ([em 38 (nI (wdN ks + np))] ++ (rwL (192 + g) s (wdN ks + 1) ks ++ [em 37 (nI (wdN ks + 2 + np))])) := by
  have wb := wdN_b ks
  have k0 : Sst u gl Pc Vm [] 0 (1 + np + wdN ks) (1 + np + wdN ks + 1) [em 38 (nI (wdN ks + np))] := Sst_i (Is_pk (by omega) (by omega)) (Nat.le_refl _) (by show 1 + np + wdN ks + 1 ≤ 1 + np + wdN ks + 1; omega)
  have k1 : Sst u gl Pc Vm [] 0 (1 + np + wdN ks + 1) (1 + np + wdN ks + 1) (rwL (192 + g) s (wdN ks + 1) ks) := Sst_i (Is_wr (tgO_of tv hg h1) (kOK_b ko) (Nat.le_refl _) (fun w ms => tpv_0 (by omega)) (by omega) (by omega)) (by rw [rwL_l]; omega) (by omega)
  have k2 : Sse u gl Pc Vm [] 0 (1 + np + wdN ks + 1) 0 [em 37 (nI (wdN ks + 2 + np))] := by
    have z := Sse_i (pre := []) (Is_dr (u := u) (gl := gl) (Pc := Pc) (Vm := Vm) (pre := []) (n := 0) (k := wdN ks + 2 + np) (by omega)) (by show 1 ≤ 1; decide) (by omega)
    rw [show 0 + (wdN ks + 2 + np) = 1 + np + wdN ks + 1 by omega] at z
    exact z
  have z1 := Sse_seq k1 k2 (by omega)
  exact Sse_seq k0 z1 (by show 1 + np + wdN ks + 1 ≤ 1 + np + wdN ks + 1; omega)
/-- the target's code is put off -/
theorem c_postp {x : Option Nat} (h : Zy T n b u al σ0 nc0 sz0 mk0 a1 a2 tb o q v mk w st lo qh szB cs τ) (h0 : sz0 ≤ szB) (hm : cs.length ≤ 16384) (l1 : L.1 1 = nI szB) (hx : (¬ (¬ tkK T n (tkN T n q) = 0 ∧ tkK T n (tkN T n q) = 6) ∧ x = none) ∨ ((¬ tkK T n (tkN T n q) = 0 ∧ tkK T n (tkN T n q) = 6) ∧ x = some (tkN T n q))) : Tm (fun k => f_X5_postponeTarget k 0 L τ) (ZPo b u nc0 sz0 mk0 x (fun q' _ τ' => Zy T n b u al τ' tb.length szB mk 0 0 tb o q' v mk w st lo qh szB [] τ' ∧ Kpt cs τ' ∧ ∀ i, i < mk → τ'.2.2.1 41 i = τ.2.2.1 41 i) σ0 a1 a2) := by
  have n36 := cdn_b h.1.1
  have le : szB + cs.length ≤ cdn b τ := h.1.1.2.1.2.1
  have es : τ.1 (fP b 1) = nI (szB + cs.length) := h.1.1.2.1.1
  have fc := fP_c b 1
  have s1 : Zy T n b u al σ0 nc0 sz0 mk0 (a1 + 0) (a2 + 0) tb o q v mk w st lo qh szB cs (uI τ 4013 0) := by
    have ph := Ph_s (σ := τ) (σ' := uI τ 4013 0) rfl
    exact Zy_42 h (fun j hj => uI_o hj) rfl (fun _ _ => ⟨rfl, rfl⟩) rfl rfl (Or.inl rfl) ⟨by omega, by omega⟩
  have kp1 : Kpt [] (uI τ 4013 0) := ⟨⟨uI_s, Nat.zero_le _⟩, fun i hi => absurd hi (Nat.not_lt_zero _)⟩
  have ed : (uI τ 4013 0).1 (fP b 1) - L.1 1 = nI cs.length := by
    rw [uI_o (by omega), es, l1, n_sub (by omega) (by omega)]
    exact congrArg nI (by omega)
  refine Tm_suc (fun k => by rw [f_X5_postponeTarget]) ?_
  refine Tm_oP (Zy_pp s1) (Tm_oP (Zy_pp s1) ?_)
  refine zt_keep (a := szB) (ll := cs) (lt := []) s1 kp1 rfl l1 ed (fun i hi => s1.2.1 i hi) (Nat.le_refl _) (by show 0 + _ ≤ _; omega) (fun τ2 n1 n2 s2 kp2 hk2 => ?_)
  refine Tm_oP (Zy_pp s2) ?_
  have s3 := Zy_sz (cs := []) (acc := cs) s2 h0
  have s3' : Zy T n b u al σ0 nc0 sz0 mk0 (a1 + 0 + n1) (a2 + 0 + n2) tb o q v mk w st lo qh szB [] (uI τ2 (fP b 1) (nI szB)) := s3
  have kp3 : Kpt cs (uI τ2 (fP b 1) (nI szB)) := ⟨⟨by rw [uI_o (by omega)]; exact kp2.1.1, kp2.1.2⟩, kp2.2⟩
  rw [l1]
  by_cases k0 : tkK T n (tkN T n q) = 0
  · rcases hx with ⟨w1, w2⟩ | ⟨w1, w2⟩
    · rw [w2]
      exact zt_adv (C := False) s3' (Or.inl ⟨k0, rfl⟩) (fun _ _ _ _ c _ _ => c.elim)
    · exact absurd k0 w1.1
  refine zt_adv (C := True) s3' (Or.inr ⟨k0, trivial⟩) (fun τ4 ret4 n3 n4 _ s4 xk4 => ?_)
  by_cases k6 : tkK T n (tkN T n q) = 6
  · rcases hx with ⟨w1, w2⟩ | ⟨w1, w2⟩
    · exact absurd ⟨k0, k6⟩ w1
    refine Tm_yes ((lx_k (kk := 6) s4.1.1 (by decide)).2 k6) ?_
    refine Tm_suc (fun k => by rw [f_X5_postponeTarget]) ?_
    rw [w2]
    refine Tm_some (Zfin s4 ⟨Zy_0 s4.1.1 s4.2.2, Kpt_k kp3 xk4, fun i hi => ?_⟩)
    rw [xk4.2.2.2.2.2.2.1 i hi]
    show τ2.2.2.1 41 i = _
    rw [(hk2 41 (by decide)).1]
    rfl
  · rcases hx with ⟨w1, w2⟩ | ⟨w1, w2⟩
    · refine Tm_no (fun z => k6 ((lx_k (kk := 6) s4.1.1 (by decide)).1 z)) ?_
      rw [w2]
      exact zt_ref s4
    · exact absurd w1.2 k6
end CXL
