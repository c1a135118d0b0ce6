/-! The class: operations, takings are read. -/
section CXE
variable {σ σ' σ0 τ τ' : CS} {L : LV} {b : Bool} {T : Nat → Int32} {n q q' u al o v mk sz szB nc0 sz0 mk0 a1 a2 m kk f e s ow a t0 t1 g D op s1 ow1 g1 way : Nat} {y : Int32} {pre : List Nat} {l l' cs cs' ll : List Int32} {tb : List Ent} {E : En} {gl : Nat × (Nat → Nat → Prop)} {Vm : Nat → Prop} {Pc : Nat → Nat → Prop} {bt : BT} {ks ks1 : List Nat}
theorem Is_bi (h : 128 ≤ op ∧ op < 144) : Isc u gl Pc Vm pre 0 (m + 2) (m + 1) [em op 0] := Is_1 (by omega) Sm3_0 (fun O nu R re c c' pc w ms hN no2 hD2 hr cn hp hR1 hR2 hd a => OKI_b h ⟨m, rfl, sx_S a cn hp hD2 no2 (by omega)⟩)
/-- the value is there: an operation with what the target holds -/
theorem Sse_op (tv : TgV u gl Vm s ow) (hg : g = if ow = u then 0 else 1) (h1 : gl.1 ≤ 1000) (ko : kOK ks) (kl : ks.length ≤ 30000) (hop : 128 ≤ op ∧ op < 144) : Sse u gl Pc Vm [] 0 (wdN ks + 1) 0 (rwL (176 + g) s (wdN ks + 1) ks ++ ([em 39 0] ++ ([em op 0] ++ (rwL (192 + g) s (wdN ks + 1) ks ++ [em 37 (nI (wdN ks + 1))])))) := by
  have wb := wdN_b ks
  have k1 : Sst u gl Pc Vm [] 0 (wdN ks + 1) (wdN ks + 1 + 1) (rwL (176 + g) s (wdN ks + 1) ks) := Sst_i (Is_rd (tgO_of tv hg h1) (kOK_b ko) (by omega) (fun w ms => tpv_0 (Nat.le_refl _)) (by omega)) (by rw [rwL_l]; omega) (by rw [rwL_l]; omega)
  have k2 : Sst u gl Pc Vm [] 0 (wdN ks + 1 + 1) (wdN ks + 1 + 1) [em 39 0] := Sst_i (Is_sw (by omega)) (Nat.le_refl _) (by omega)
  have k3 : Sst u gl Pc Vm [] 0 (wdN ks + 2) (wdN ks + 1) [em op 0] := Sst_i (Is_bi hop) (Nat.le_refl _) (by omega)
  have z3 := Sse_seq k3 (Sse_as (Pc := Pc) tv hg h1 ko kl) (by omega)
  have z2 := Sse_seq k2 z3 (by omega)
  exact Sse_seq k1 z2 (by rw [rwL_l]; omega)
theorem c_operation {x : Option RT} (h : QS T n b u al tb o q v mk 0 sz σ) (ev : EvX E b u al gl Vm tb σ) (n10 : n ≤ 10240) (hmk : mk ≤ 2 * q + 18 * o + 4) (hnt : tb.length + (60 - v) ≤ 256) (hs2 : 2 * sz + 3 * (n - q) + 4 * ks.length + 100 ≤ 73728) (tm : TgM σ t0 s ow ks) (ht : t0 + 4 + ks.length ≤ mk) (tv : TgV u gl Vm s ow) (ko : kOK ks) (kl : ks.length ≤ 30000) (l1 : L.1 1 = nI t0) (hk : tkK T n q = 2 ∨ tkK T n q = 3 ∨ tkK T n q = 4) (l2 : L.1 2 = cKd (tkK T n q)) (hG : gT T n q (fun q1 => gW T n 1 q1 (fun q2 => G T n f 0 E o q2 v 0 0 0 0 bt)) = some x) : Tm (fun k => f_X5_operation k 0 L σ) (QPo b u tb.length sz mk (x.map (fun r => (r.1, r.2.1))) (fun r _ τ => AsR T n b u al gl Pc Vm tb o mk sz q v (wdN ks) (4 * ks.length + 13) r τ ∧ q + 3 ≤ r.1) σ 0 0) := by
  have s0 := Sy_0 h
  have sn := h.2.2.1
  have sn1 := sn.2.1
  have sn2 := sn.2.2
  have u42 := ev.2.2.1.2
  have gl1 := ev.1.1
  have go := tk_go h
  have g1 := go.2.2 (by omega)
  have wb := wdN_b ks
  have o20 := h.2.2.2.2.2.1.2
  have v60 := h.2.2.2.2.2.2.1.2
  obtain ⟨g, hg⟩ : ∃ g, g = if ow = u then 0 else 1 := ⟨_, rfl⟩
  rcases gT_any hG with ⟨w1, w2⟩ | ⟨w1, w2⟩
  · rw [w2]
    refine Tm_suc (fun k => by rw [f_X5_operation]) ?_
    exact st_advY (C := True) s0 (Or.inl ⟨w1, rfl⟩) (fun _ _ _ _ s => absurd w1 s.1.1.1.2.2.2.2.1)
  rcases gW_any w2 with ⟨w3, w4⟩ | ⟨w3, w4⟩
  · rw [w4]
    refine Tm_suc (fun k => by rw [f_X5_operation]) ?_
    refine st_advY (C := True) s0 (Or.inr ⟨w1, trivial⟩) (fun τ1 r1 er _ s1 => ?_)
    rw [er]
    exact st_expect (kk := 1) (C := False) s1 (by decide) rfl (Or.inl ⟨w3, rfl⟩) (fun _ _ _ _ c _ => c.elim)
  have go1 := tkN_b T n (tkN T n q) go.2.1
  have g2 := go1.2.2.2 (by omega)
  -- from the exp on
  have key : ∀ (y : Option RT), G T n f 0 E o (tkN T n (tkN T n q)) v 0 0 0 0 bt = some y → Tm (fun k => f_X5_operation k 0 L σ) (QPo b u tb.length sz mk (y.map (fun r => (r.1, r.2.1))) (fun r _ τ => AsR T n b u al gl Pc Vm tb o mk sz q v (wdN ks) (4 * ks.length + 13) r τ ∧ q + 3 ≤ r.1) σ 0 0) := by
    intro y hy
    have bd : BdX n o (tkN T n (tkN T n q)) v mk 0 sz tb.length := ⟨n10, by omega, by omega, hnt, by omega⟩
    refine Tm_suc (fun k => by rw [f_X5_operation]) ?_
    refine st_advY (C := True) s0 (Or.inr ⟨w1, trivial⟩) (fun τ1 r1 er _ s1 => ?_)
    rw [er]
    refine st_expect (kk := 1) (C := True) s1 (by decide) rfl (Or.inr ⟨w3, trivial⟩) (fun τ2 ret2 n1 n2 _ s2 => ?_)
    cases y with
    | none => exact st_exp (C := True) (px_all f 400) (Or.inl ⟨rfl, rfl⟩) s2 (EvX_k ev s2.1.2.1) bd rfl (by omega) hy (Or.inl ⟨rfl, rfl⟩) (fun _ _ _ _ _ _ z => by cases z)
    | some r =>
      refine st_exp (C := True) (px_all f 400) (Or.inl ⟨rfl, rfl⟩) s2 (EvX_k ev s2.1.2.1) bd rfl (by omega) hy (Or.inr ⟨r, rfl, trivial⟩) (fun τ3 ret3 n3 n4 r1 ll hz _ s3 xk sg ln lt lv tg => ?_)
      cases hz
      have go3 := tk_go s3.1.1
      have tm3 := TgM_k tm s3.1.2.1 ht
      have m3 := s3.1.1.2.2.1.2.1
      have j2 : L.1 1 + 2 = nI (t0 + 2) := by rw [l1]; exact n_add (q := 2) (by omega)
      have k3 : τ3.2.2.1 41 (nI (t0 + 2)).toNatClampNeg = nI (wdN ks) := by rw [n_cl (by omega)]; exact tm3.1.2.2.1
      rw [j2]
      refine Tm_chk (n_in (n := sN τ3 41) (by omega) (by omega)) ?_
      rw [k3, n_add1]
      have s3' : Sy T n b u al σ tb.length sz mk (0 + n1 + n3) (0 + n2 + n4) tb o r.1 r.2.1 mk 0 sz ll τ3 := s3
      refine st_emitT (op := 176) (D := wdN ks + 1) s3' u42 tm3 ht hg tv.2.2 (by decide) (by omega) rfl l1 rfl (fun τ4 ret4 n5 n6 s4 xk4 => ?_)
      refine Tm_oP (Sy_pp s4) ?_
      have lr : (ll ++ rwL (176 + g) s (wdN ks + 1) ks).length = ll.length + (ks.length + 3) := by rw [List.length_append, rwL_l]
      refine st_emit (op := 39) s4 rfl rfl (by rw [lr]; omega) (fun τ5 n7 n8 s5 => ?_)
      refine Tm_oP (Sy_pp s5) ?_
      have lr5 : ∀ w : Int32, (ll ++ rwL (176 + g) s (wdN ks + 1) ks ++ [w]).length = ll.length + (ks.length + 3) + 1 := fun w => by rw [List.length_append, lr]; rfl
      have tm5 := TgM_k tm s5.1.2.1 ht
      have b2 : ∀ (L' : LV) (op : Nat), L'.1 1 = nI t0 → L'.1 100 = nI op → L'.2.2.1 101 = b → 128 ≤ op ∧ op < 144 → Tm (fun k => f_X5_operation k 2 L' τ5) (QPo b u tb.length sz mk ((some r).map (fun r => (r.1, r.2.1))) (fun r _ τ => AsR T n b u al gl Pc Vm tb o mk sz q v (wdN ks) (4 * ks.length + 13) r τ ∧ q + 3 ≤ r.1) σ (0 + n1 + n3 + n5 + n7) (0 + n2 + n4 + n6 + n8)) := by
        intro L' op i1 i100 i101 hop
        have i2 : L'.1 1 + 2 = nI (t0 + 2) := by rw [i1]; exact n_add (q := 2) (by omega)
        refine Tm_suc (fun k => by rw [f_X5_operation]) ?_
        refine st_emit (op := op) s5 i101 i100 (by rw [lr5]; omega) (fun τ6 n9 n10' s6 => ?_)
        have tm6 := TgM_k tm s6.1.2.1 ht
        have m6 := s6.1.1.2.2.1.2.1
        have k6 : τ6.2.2.1 41 (nI (t0 + 2)).toNatClampNeg = nI (wdN ks) := by rw [n_cl (by omega)]; exact tm6.1.2.2.1
        rw [i2]
        refine Tm_chk (n_in (n := sN τ6 41) (by omega) (by omega)) ?_
        rw [k6, n_add1]
        have lr6 : ∀ w0 w : Int32, (ll ++ rwL (176 + g) s (wdN ks + 1) ks ++ [w0] ++ [w]).length = ll.length + (ks.length + 3) + 2 := fun w0 w => by rw [List.length_append, lr5]; rfl
        refine st_emitT (op := 192) (D := wdN ks + 1) s6 u42 tm6 ht hg tv.2.2 (by decide) (by rw [lr6]; omega) rfl i1 rfl (fun τ7 ret7 n11 n12 s7 xk7 => ?_)
        refine Tm_oP (Sy_pp s7) ?_
        have tm7 := TgM_k tm6 xk7 ht
        have m7 := s7.1.1.2.2.1.2.1
        have k7 : τ7.2.2.1 41 (nI (t0 + 2)).toNatClampNeg = nI (wdN ks) := by rw [n_cl (by omega)]; exact tm7.1.2.2.1
        refine Tm_chk (n_in (n := sN τ7 41) (by omega) (by omega)) ?_
        rw [k7, n_add1]
        have lr7 : ∀ w0 w : Int32, (ll ++ rwL (176 + g) s (wdN ks + 1) ks ++ [w0] ++ [w] ++ rwL (192 + g) s (wdN ks + 1) ks).length = ll.length + (ks.length + 3) + 2 + (ks.length + 3) := fun w0 w => by rw [List.length_append, lr6, rwL_l]
        refine st_emit (op := 37) s7 rfl rfl (by rw [lr7]; omega) (fun τ8 n13 n14 s8 => ?_)
        have ea : ll ++ rwL (176 + g) s (wdN ks + 1) ks ++ [em 39 0] ++ [em op 0] ++ rwL (192 + g) s (wdN ks + 1) ks ++ [em 37 (nI (wdN ks + 1))] = ll ++ (rwL (176 + g) s (wdN ks + 1) ks ++ ([em 39 0] ++ ([em op 0] ++ (rwL (192 + g) s (wdN ks + 1) ks ++ [em 37 (nI (wdN ks + 1))])))) := by simp only [List.append_assoc]
        have s8' : Sy T n b u al σ tb.length sz mk (0 + n1 + n3 + n5 + n7 + n9 + n11 + n13) (0 + n2 + n4 + n6 + n8 + n10' + n12 + n14) tb o r.1 r.2.1 mk 0 sz (ll ++ (rwL (176 + g) s (wdN ks + 1) ks ++ ([em 39 0] ++ ([em op 0] ++ (rwL (192 + g) s (wdN ks + 1) ks ++ [em 37 (nI (wdN ks + 1))]))))) τ8 := by
          rw [← ea]; exact s8
        have lf : (ll ++ (rwL (176 + g) s (wdN ks + 1) ks ++ ([em 39 0] ++ ([em op 0] ++ (rwL (192 + g) s (wdN ks + 1) ks ++ [em 37 (nI (wdN ks + 1))]))))).length = ll.length + 2 * ks.length + 9 := by rw [← ea, List.length_append, lr7]; show ll.length + (ks.length + 3) + 2 + (ks.length + 3) + 1 = _; omega
        have ty : Sse u gl Pc Vm [] 0 (wdN ks) 0 (ll ++ (rwL (176 + g) s (wdN ks + 1) ks ++ ([em 39 0] ++ ([em op 0] ++ (rwL (192 + g) s (wdN ks + 1) ks ++ [em 37 (nI (wdN ks + 1))]))))) := Sse_seq (Sst_sg sg (wdN ks)) (Sse_op tv hg gl1 ko kl hop) (by have := sg.1; omega)
        refine Tm_some (Qfin s8'.1 ⟨⟨_, s8'.1.1, s8'.2, ty, ?_, ?_, lv⟩, by show q + 3 ≤ r.1; omega⟩)
        · rw [lf]
          show 2 * (ll.length + 2 * ks.length + 9) ≤ 3 * (r.1 - q) + (4 * ks.length + 13)
          omega
        · show q < r.1
          omega
      rcases hk with hk | hk | hk
      · refine Tm_yes (by show L.1 2 = 6; rw [l2, hk]; rfl) ?_
        exact b2 _ 128 l1 rfl rfl (by decide)
      · refine Tm_no (by show ¬ L.1 2 = 6; rw [l2, hk]; decide) ?_
        refine Tm_suc (fun k => by rw [f_X5_operation]) ?_
        refine Tm_yes (by show L.1 2 = 7; rw [l2, hk]; rfl) ?_
        exact b2 _ 129 l1 rfl rfl (by decide)
      · refine Tm_no (by show ¬ L.1 2 = 6; rw [l2, hk]; decide) ?_
        refine Tm_suc (fun k => by rw [f_X5_operation]) ?_
        refine Tm_no (by show ¬ L.1 2 = 7; rw [l2, hk]; decide) ?_
        refine Tm_suc (fun k => by rw [f_X5_operation]) ?_
        exact b2 _ 130 l1 rfl rfl (by decide)
  exact key x w4
theorem set_mid {x y w : Int32} {W : List Int32} : ∀ A : List Int32, (A ++ x :: y :: W).set (A.length + 1) w = A ++ x :: w :: W
  | [] => rfl
  | a :: A => congrArg (fun l => a :: l) (set_mid A)
/-- what is taken of one target goes into another -/
theorem Sse_tk (tv : TgV u gl Vm s ow) (hg : g = if ow = u then 0 else 1) (tv1 : TgV u gl Vm s1 ow1) (hg1 : g1 = if ow1 = u then 0 else 1) (h1 : gl.1 ≤ 1000) (ko : kOK ks) (kl : ks.length ≤ 30000) (ko1 : kOK ks1) (kl1 : ks1.length ≤ 30000) (hw : way < 1000) : Sse u gl Pc Vm [] 0 (wdN ks + wdN ks1) 0 (rwL (176 + g1) s1 (wdN ks1) ks1 ++ ((em 101 (nI way) :: nI (2 + (rwL (192 + g1) s1 (wdN ks1 + 2) ks1).length) :: rwL (192 + g1) s1 (wdN ks1 + 2) ks1) ++ ([em 37 (nI 1)] ++ (rwL (192 + g) s (wdN ks + wdN ks1 + 1) ks ++ [em 37 (nI (wdN ks + wdN ks1 + 1))])))) := by
  have wb := wdN_b ks
  have wb1 := wdN_b ks1
  have k1 : Sst u gl Pc Vm [] 0 (wdN ks + wdN ks1) (wdN ks + wdN ks1 + 1) (rwL (176 + g1) s1 (wdN ks1) ks1) := Sst_i (Is_rd (tgO_of tv1 hg1 h1) (kOK_b ko1) (Nat.le_refl _) (fun w ms => tpv_0 (by omega)) (by omega)) (by rw [rwL_l]; omega) (by rw [rwL_l]; omega)
  have k2 : Sst u gl Pc Vm [] 0 (wdN ks + wdN ks1 + 1 + 1) (wdN ks + wdN ks1 + 1 + 1) (rwL (192 + g1) s1 (wdN ks1 + 2) ks1) := Sst_i (Is_wr (tgO_of tv1 hg1 h1) (kOK_b ko1) (by omega) (fun w ms => tpv_0 (by omega)) (by omega) (by omega)) (by rw [rwL_l]; omega) (by omega)
  have k3 := Sst_tk (way := way) (m := wdN ks + wdN ks1 + 1) (by omega) hw k2 (by rw [rwL_l]; omega)
  have k4 : Sst u gl Pc Vm [] 0 (wdN ks + wdN ks1 + 1 + 1) (wdN ks + wdN ks1 + 1) [em 37 (nI 1)] := Sst_i (Is_dr (k := 1) (n := wdN ks + wdN ks1 + 1) (by decide)) (Nat.le_refl _) (by omega)
  have k5 : Sst u gl Pc Vm [] 0 (wdN ks + wdN ks1 + 1) (wdN ks + wdN ks1 + 1) (rwL (192 + g) s (wdN ks + wdN ks1 + 1) ks) := Sst_i (Is_wr (tgO_of tv hg h1) (kOK_b ko) (by omega) (fun w ms => tpv_0 (Nat.le_refl _)) (by omega) (by omega)) (by rw [rwL_l]; omega) (by omega)
  have k6 : Sse u gl Pc Vm [] 0 (wdN ks + wdN ks1 + 1) 0 [em 37 (nI (wdN ks + wdN ks1 + 1))] := by
    have z := Sse_i (pre := []) (Is_dr (u := u) (gl := gl) (Pc := Pc) (Vm := Vm) (pre := []) (n := 0) (k := wdN ks + wdN ks1 + 1) (by omega)) (by show 1 ≤ 1; decide) (by omega)
    rw [show 0 + (wdN ks + wdN ks1 + 1) = wdN ks + wdN ks1 + 1 by omega] at z
    exact z
  have z5 := Sse_seq k5 k6 (by omega)
  have z4 := Sse_seq k4 z5 (by omega)
  have z3 := Sse_seq k3 z4 (by rw [List.length_cons]; omega)
  exact Sse_seq k1 z3 (by rw [rwL_l]; omega)
theorem c_taking (h : QS T n b u al tb o q v mk 0 sz σ) (u42 : u < 42) (gl1 : gl.1 ≤ 1000) (hs2 : sz + ks.length + 2 * ks1.length + 30 ≤ 36864) (tm : TgM σ t0 s ow ks) (ht : t0 + 4 + ks.length ≤ mk) (tv : TgV u gl Vm s ow) (ko : kOK ks) (kl : ks.length ≤ 30000) (tm1 : TgM σ t1 s1 ow1 ks1) (ht1 : t1 + 4 + ks1.length ≤ mk) (tv1 : TgV u gl Vm s1 ow1) (ko1 : kOK ks1) (kl1 : ks1.length ≤ 30000) (hw : way < 1000) (l1 : L.1 1 = nI t0) (l2 : L.1 2 = nI t1) (l3 : L.1 3 = nI way) : Tm (fun k => f_X5_taking k 0 L σ) (QPo b u tb.length sz mk (some ()) (fun _ _ τ => ∃ ll : List Int32, QS T n b u al tb o q v mk 0 (sz + ll.length) τ ∧ (∀ i, i < ll.length → cdr b τ (sz + i) = ll.getD i 0) ∧ Sse u gl Pc Vm [] 0 (wdN ks + wdN ks1) 0 ll ∧ ll.length = ks.length + 2 * ks1.length + 13) σ 0 0) := by
  have s0 := Sy_0 h
  have sn := h.2.2.1
  have sn1 := sn.2.1
  have sn2 := sn.2.2
  have wb := wdN_b ks
  have wb1 := wdN_b ks1
  obtain ⟨g, hg⟩ : ∃ g, g = if ow = u then 0 else 1 := ⟨_, rfl⟩
  obtain ⟨g1, hg1⟩ : ∃ g, g = if ow1 = u then 0 else 1 := ⟨_, rfl⟩
  have j1 : L.1 1 + 2 = nI (t0 + 2) := by rw [l1]; exact n_add (q := 2) (by omega)
  have j2 : L.1 2 + 2 = nI (t1 + 2) := by rw [l2]; exact n_add (q := 2) (by omega)
  have k1 : σ.2.2.1 41 (nI (t0 + 2)).toNatClampNeg = nI (wdN ks) := by rw [n_cl (by omega)]; exact tm.1.2.2.1
  have k2 : σ.2.2.1 41 (nI (t1 + 2)).toNatClampNeg = nI (wdN ks1) := by rw [n_cl (by omega)]; exact tm1.1.2.2.1
  have ea2 : nI (wdN ks1) + 2 = nI (wdN ks1 + 2) := n_add (q := 2) (by omega)
  refine Tm_suc (fun k => by rw [f_X5_taking]) ?_
  rw [j1, j2]
  refine Tm_chk (n_in (by omega) (by omega)) (Tm_chk (n_in (by omega) (by omega)) ?_)
  rw [k1, k2, ea2, n_add (by omega), n_add1]
  refine st_emitT (op := 176) (D := wdN ks1) s0 u42 tm1 ht1 hg1 tv1.2.2 (by decide) (by show sz + 0 + 3 + _ ≤ _; omega) rfl l2 rfl (fun τ1 ret1 n1 n2 s1' xk1 => ?_)
  have lA : (rwL (176 + g1) s1 (wdN ks1) ks1).length = ks1.length + 3 := rwL_l
  have s1'' : Sy T n b u al σ tb.length sz mk (0 + n1) (0 + n2) tb o q v mk 0 sz (rwL (176 + g1) s1 (wdN ks1) ks1) τ1 := s1'
  generalize hA : rwL (176 + g1) s1 (wdN ks1) ks1 = A at *
  refine Tm_oP (Sy_pp s1'') ?_
  refine st_emit (op := 101) s1'' rfl rfl (by omega) (fun τ2 n3 n4 s2 => ?_)
  have lA1 : ∀ w : Int32, (A ++ [w]).length = A.length + 1 := fun w => by rw [List.length_append]; rfl
  refine Tm_oP (Sy_pp s2) ?_
  refine st_word s2 rfl (by rw [lA1]; omega) (fun τ3 n5 n6 s3 => ?_)
  have lA2 : ∀ w w' : Int32, (A ++ [w] ++ [w']).length = A.length + 2 := fun w w' => by rw [List.length_append, lA1]; rfl
  have tm13 := TgM_k tm1 s3.1.2.1 ht1
  refine st_emitT (op := 192) (D := wdN ks1 + 2) s3 u42 tm13 ht1 hg1 tv1.2.2 (by decide) (by rw [lA2]; omega) rfl l2 rfl (fun τ4 ret4 n7 n8 s4 xk4 => ?_)
  have lW : (rwL (192 + g1) s1 (wdN ks1 + 2) ks1).length = ks1.length + 3 := rwL_l
  generalize hW : rwL (192 + g1) s1 (wdN ks1 + 2) ks1 = W at *
  have e4 : A ++ [em 101 (L.1 3)] ++ [(0 : Int32)] ++ W = A ++ em 101 (L.1 3) :: 0 :: W := by simp only [List.append_assoc]; rfl
  have s4' : Sy T n b u al σ tb.length sz mk (0 + n1 + n3 + n5 + n7) (0 + n2 + n4 + n6 + n8) tb o q v mk 0 sz (A ++ em 101 (L.1 3) :: 0 :: W) τ4 := by rw [← e4]; exact s4
  have l4 : (A ++ em 101 (L.1 3) :: 0 :: W).length = A.length + W.length + 2 := by rw [List.length_append, List.length_cons, List.length_cons]; omega
  refine Tm_oP (Sy_pp s4') (Tm_oP (Sy_pp s4') ?_)
  have le := s4'.1.1.2.1.2.1
  have n36 := cdn_b s4'.1.1
  rw [l4] at le
  have en : nI (sz + A.length) + 1 = nI (sz + (A.length + 1)) := by rw [n_add1]; rfl
  have es : τ4.1 (fP b 1) = nI (sz + (A.length + W.length + 2)) := by have z := s4'.1.1.2.1.1; rw [l4] at z; exact z
  refine Tm_chk (by show ¬ (nI (sz + A.length) + 1 < 0 ∨ _ ≤ (nI (sz + A.length) + 1).toNatClampNeg); rw [en]; exact n_in (by omega) (by show sz + (A.length + 1) < cdn b τ4; omega)) ?_
  have ew : τ4.1 (fP b 1) - nI (sz + A.length) = nI (2 + W.length) := by
    rw [es, n_sub (by omega) (by omega)]
    exact congrArg nI (by omega)
  have ex : (nI (sz + A.length) + 1).toNatClampNeg = sz + (A.length + 1) := by rw [en, n_cl (by omega)]
  have s5 := Sy_set (h := A.length + 1) s4' (Nat.le_refl _) (by rw [l4]; omega) (nI (2 + W.length))
  rw [set_mid] at s5
  have eU : uA τ4 (pR0 (sKd τ4 b)) (nI (sz + A.length) + 1).toNatClampNeg (τ4.1 (fP b 1) - nI (sz + A.length)) = uA τ4 (pR0 (sKd τ4 b)) (sz + (A.length + 1)) (nI (2 + W.length)) := by rw [ex, ew]
  show Tm (fun k => oP (sPp (uA τ4 (pR0 (sKd τ4 b)) (nI (sz + A.length) + 1).toNatClampNeg (τ4.1 (fP b 1) - nI (sz + A.length)))) (fun b12 => ox (f_X7_emit__P k 0 (lI (lI (lB lZ 0 b12) 1 37) 2 1) (uA τ4 (pR0 (sKd τ4 b)) (nI (sz + A.length) + 1).toNatClampNeg (τ4.1 (fP b 1) - nI (sz + A.length)))) _)) _
  rw [eU]
  refine Tm_oP (Sy_pp s5) ?_
  have l5 : (A ++ em 101 (L.1 3) :: nI (2 + W.length) :: W).length = A.length + W.length + 2 := by rw [List.length_append, List.length_cons, List.length_cons]; omega
  refine st_emit (op := 37) s5 rfl rfl (by rw [l5]; omega) (fun τ6 n9 n10 s6 => ?_)
  have l6 : ∀ w : Int32, (A ++ em 101 (L.1 3) :: nI (2 + W.length) :: W ++ [w]).length = A.length + W.length + 3 := fun w => by rw [List.length_append, l5]; rfl
  have tm6 := TgM_k tm s6.1.2.1 ht
  refine st_emitT (op := 192) (D := wdN ks + wdN ks1 + 1) s6 u42 tm6 ht hg tv.2.2 (by decide) (by rw [l6]; omega) rfl l1 rfl (fun τ7 ret7 n11 n12 s7 xk7 => ?_)
  refine Tm_oP (Sy_pp s7) ?_
  have l7 : ∀ w : Int32, (A ++ em 101 (L.1 3) :: nI (2 + W.length) :: W ++ [w] ++ rwL (192 + g) s (wdN ks + wdN ks1 + 1) ks).length = A.length + W.length + 3 + (ks.length + 3) := fun w => by rw [List.length_append, l6, rwL_l]
  refine st_emit (op := 37) s7 rfl rfl (by rw [l7]; omega) (fun τ8 n13 n14 s8 => ?_)
  have ea : A ++ em 101 (L.1 3) :: nI (2 + W.length) :: W ++ [em 37 1] ++ rwL (192 + g) s (wdN ks + wdN ks1 + 1) ks ++ [em 37 (nI (wdN ks + wdN ks1 + 1))] = A ++ ((em 101 (nI way) :: nI (2 + W.length) :: W) ++ ([em 37 (nI 1)] ++ (rwL (192 + g) s (wdN ks + wdN ks1 + 1) ks ++ [em 37 (nI (wdN ks + wdN ks1 + 1))]))) := by rw [l3]; simp only [List.append_assoc]; rfl
  have s8' : Sy T n b u al σ tb.length sz mk (0 + n1 + n3 + n5 + n7 + n9 + n11 + n13) (0 + n2 + n4 + n6 + n8 + n10 + n12 + n14) tb o q v mk 0 sz (A ++ ((em 101 (nI way) :: nI (2 + W.length) :: W) ++ ([em 37 (nI 1)] ++ (rwL (192 + g) s (wdN ks + wdN ks1 + 1) ks ++ [em 37 (nI (wdN ks + wdN ks1 + 1))])))) τ8 := by
    rw [← ea]; exact s8
  have ty := Sse_tk (Pc := Pc) (way := way) tv hg tv1 hg1 gl1 ko kl ko1 kl1 hw
  rw [hA, hW] at ty
  refine Tm_some (Qfin s8'.1 ⟨_, s8'.1.1, s8'.2, ty, ?_⟩)
  rw [← ea, List.length_append, l7]
  show A.length + W.length + 3 + (ks.length + 3) + 1 = _
  omega
end CXE
