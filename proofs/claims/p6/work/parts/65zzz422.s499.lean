/-! The class: statements that begin with a name are read. -/
section CXO
variable {σ σ' σ0 τ τ' τ0 : CS} {L : LV} {b : Bool} {T : Nat → Int32} {n q q' u al o v mk mk' p sz szB szE nc nc0 sz0 mk0 a1 a2 m kk f e s ow a t0 g D op w st w' st' M nm deep vv np : Nat} {y qh qh' : Int32} {l l' cs cs' ll lt lt0 : List Int32} {tb : List Ent} {E : En} {gl : Nat × (Nat → Nat → Prop)} {Vm : Nat → Prop} {Pc : Nat → Nat → Prop} {MD : Nat → Nat → Nat} {md : Nat → Nat} {bt : BT} {ks : List Nat} {lo lo' : Option Nat}
/-- +:= .. -/
theorem c_nmOp {r : RT} {x : Option RT} (ts : TgS T n b u al gl Vm σ a1 a2 tb o q v mk w st lo qh sz s ow ks cs r τ) (sx : StX n E b u al gl Vm Pc MD tb σ) (bd : BdS n o q v mk sz tb.length) (l5 : L.1 5 = nI mk) (hk : tkK T n r.1 = 2 ∨ tkK T n r.1 = 3 ∨ tkK T n r.1 = 4) (hG : gT T n r.1 (fun q1 => gW T n 1 q1 (fun q2 => G T n f 0 E o q2 r.2.1 0 0 0 0 r.2.2.2.2.1)) = some x) : Tm (fun k => f_X5_nameStatement k 7 L τ) (ZPo b u tb.length sz mk (zq x) (fun r _ τ => SzR T n b u al gl Pc Vm tb o mk sz q v w st lo qh r τ) σ a1 a2) := by
  obtain ⟨s1, tv, tm, ko, sg, ln, lq, lv, ri⟩ := ts
  obtain ⟨bd1, bd2, bd3⟩ := bd
  obtain ⟨ev, pr, pe, n3, n10⟩ := sx
  have go := tk_go s1.1.1
  have wb := wdN_b ks
  have e2 : τ.1 3702 = cKd (tkK T n r.1) := s1.1.1.1.2.2.2.2.2.1
  refine Tm_suc (fun k => by rw [f_X5_nameStatement]) ?_
  refine zt_call (C := True) s1 (c_operation (Pc := Pc) (t0 := mk) (f := f) s1.1.1 (EvX_z ev s1.1.2.1) n10 (by omega) (by omega) (by omega) tm (Nat.le_refl _) tv ko (by omega) l5 hk e2 hG) ?_
  cases x with
  | none => exact Or.inl ⟨rfl, rfl⟩
  | some r3 =>
    refine Or.inr ⟨(r3.1, r3.2.1), rfl, trivial, fun τ3 ret3 n3' n4 hr xk3 hc3 => ?_⟩
    obtain ⟨⟨l3, r1, r2, r3', r4, r5, r6⟩, r7⟩ := hr
    have s3 := Zy_cl s1 r1 xk3 hc3 r2 (Nat.le_refl _) (by omega)
    have go3 := tk_go s3.1.1
    have r7' : r.1 + 3 ≤ r3.1 := r7
    have r4' : 2 * l3.length ≤ 3 * (r3.1 - r.1) + (4 * ks.length + 13) := r4
    have lc : (cs ++ l3).length = cs.length + l3.length := List.length_append
    have z := Sst_sg (Pc := Pc) (pre := []) sg 0
    rw [Nat.zero_add] at z
    have sg1 := sg.1
    have ty : Sse u gl Pc Vm [] 0 0 0 (cs ++ l3) := Sse_seq z r3' (by omega)
    exact c_nmEnd (L := L) s3 (by omega) (Nat.le_refl _) l5 ty (Nat.zero_le _) (by rw [lc]; show 2 * (cs.length + l3.length) ≤ 7 * (r3.1 - q); omega) (by show q < r3.1; omega) (by have : r.2.1 ≤ r3.2.1 := r6; show v ≤ r3.2.1; omega)
theorem ck_nI {k : Nat} (h : k = 57 ∨ k = 58 ∨ k = 59) : cKd k = nI k := by
  rcases h with h | h | h <;> (rw [h]; rfl)
/-- from .. -/
theorem c_nmTk {r : RT} {x : Option RT} (ts : TgS T n b u al gl Vm σ a1 a2 tb o q v mk w st lo qh sz s ow ks cs r τ) (sx : StX n E b u al gl Vm Pc MD tb σ) (bd : BdS n o q v mk sz tb.length) (l5 : L.1 5 = nI mk) (hk : tkK T n r.1 = 57 ∨ tkK T n r.1 = 58 ∨ tkK T n r.1 = 59) (hG : gT T n r.1 (fun q1 => gTg T n f E o q1 r.2.1 r.2.2.2.2.1) = some x) : Tm (fun k => f_X5_nameStatement k 8 L τ) (ZPo b u tb.length sz mk (zq x) (fun r _ τ => SzR T n b u al gl Pc Vm tb o mk sz q v w st lo qh r τ) σ a1 a2) := by
  obtain ⟨s1, tv, tm, ko, sg, ln, lq, lv, ri⟩ := ts
  obtain ⟨bd1, bd2, bd3⟩ := bd
  obtain ⟨ev, pr, pe, n3, n10⟩ := sx
  have go := tk_go s1.1.1
  have wb := wdN_b ks
  have u42 := ev.2.2.1.2
  have gl1 := ev.1.1
  have e2 : τ.1 3702 = cKd (tkK T n r.1) := s1.1.1.1.2.2.2.2.2.1
  have w4 : r.1 + 4 ≤ tkN T n r.1 := by
    rcases hk with hk | hk | hk
    · exact tk_wl (m := 4) s1.1.1 hk (by decide) rfl
    · have := tk_wl (m := 5) s1.1.1 hk (by decide) rfl; omega
    · have := tk_wl (m := 5) s1.1.1 hk (by decide) rfl; omega
  have v60 := s1.1.1.2.2.2.2.2.2.1.2
  refine Tm_suc (fun k => by rw [f_X5_nameStatement]) ?_
  rcases gT_any hG with ⟨w1, w2⟩ | ⟨w1, w2⟩
  · rw [w2]
    exact zt_adv (C := False) s1 (Or.inl ⟨w1, rfl⟩) (fun _ _ _ _ c _ _ => c.elim)
  refine zt_adv (C := True) s1 (Or.inr ⟨w1, trivial⟩) (fun τ2 ret2 n1 n2 _ s2 xk2 => ?_)
  have go2 := tk_go s2.1.1
  have tm2 := TgM_k tm xk2 (Nat.le_refl _)
  refine zt_call (C := True) s2 (c_target (L := lI lZ 1 (-1)) s2.1.1 (EvX_z ev s2.1.2.1) n3 n10 (by omega) (by omega) (by omega) (Nat.zero_le _) rfl w2) ?_
  cases x with
  | none => exact Or.inl ⟨rfl, rfl⟩
  | some r3 =>
    refine Or.inr ⟨r3, rfl, trivial, fun τ3 ret3 n3' n4 hr xk3 hc3 => ?_⟩
    obtain ⟨s', ow', tv', gq, er, l3, ks', r1, r2, r3', r4, r5, r6, r7, r8, r9⟩ := hr
    have s3 := Zy_cl s2 r1 xk3 hc3 r2 (Nat.le_refl _) (by omega)
    have go3 := tk_go s3.1.1
    have tm3 := TgM_k tm2 xk3 (Nat.le_refl _)
    have wb' := wdN_b ks'
    have lc : (cs ++ l3).length = cs.length + l3.length := List.length_append
    have lw : τ.1 3702 - 57 = nI (tkK T n r.1 - 57) := by
      rw [e2, ck_nI hk]
      show nI (tkK T n r.1) - nI 57 = _
      rw [n_sub (by omega) (by omega)]
    refine zt_call (C := True) s3 (c_taking (Pc := Pc) (gl := gl) (Vm := Vm) (t0 := mk) (t1 := mk + 4 + ks.length) (way := tkK T n r.1 - 57) s3.1.1 u42 gl1 (by rw [lc]; omega) tm3 (by omega) tv ko (by omega) r4 (Nat.le_refl _) tv' r5 (by omega) (by omega) l5 er lw) (Or.inr ⟨(), rfl, trivial, fun τ4 ret4 n5 n6 hr4 xk4 hc4 => ?_⟩)
    obtain ⟨l4, q1, q2, q3, q4⟩ := hr4
    have s4 := Zy_cl s3 q1 xk4 hc4 q2 (Nat.le_refl _) (by omega)
    have sg1 := sg.1
    have sg3 := r3'.1
    have ty : Sse u gl Pc Vm [] 0 0 0 (cs ++ l3 ++ l4) := by
      have z2 := Sst_sg (Pc := Pc) (pre := []) (Sgm_seq sg r3') 0
      rw [Nat.zero_add] at z2
      exact Sse_seq z2 q3 (by rw [lc]; omega)
    refine c_nmEnd (L := L) s4 (by omega) (Nat.le_refl _) l5 ty (Nat.zero_le _) ?_ (by show q < r3.1; omega) (by show v ≤ r3.2.1; omega)
    rw [List.length_append, lc]
    show 2 * (cs.length + l3.length + l4.length) ≤ 7 * (r3.1 - q)
    omega
/-- a statement that begins with a name -/
theorem c_nameSt {x : Option RT} (h : QS T n b u al tb o q v mk 0 sz σ) (zf : ZF b u w st lo qh σ) (sx : StX n E b u al gl Vm Pc MD tb σ) (bd : BdS n o q v mk sz tb.length) (hk : tkK T n q = 26) (hG : gBg0 T n f MD E o q v bt = some x) : Tm (fun k => f_X5_nameStatement k 0 L σ) (ZPo b u tb.length sz mk (zq x) (fun r _ τ => SzR T n b u al gl Pc Vm tb o mk sz q v w st lo qh r τ) σ 0 0) := by
  have s0 := Zy_0 h zf
  have go := tk_go h
  have g1 := go.2.2 (by omega)
  have sx0 := sx
  have bd0 := bd
  obtain ⟨bd1, bd2, bd3⟩ := bd
  obtain ⟨ev, pr, pe, n3, n10⟩ := sx
  have okn : okN (tkS T n q) := (h.1.2.2.2.2.2.2.2.2 hk).2
  obtain ⟨nr1, nr2⟩ := ev.1.2 (tkS T n q) okn
  have v60 := h.2.2.2.2.2.2.1.2
  unfold gBg0 at hG
  refine Tm_suc (fun k => by rw [f_X5_nameStatement]) ?_
  by_cases k0 : tkK T n (tkN T n q) = 0
  · have hx : x = none := by
      by_cases f3 : (fd E (tkS T n q)).1 = 3
      · rw [if_pos f3] at hG
        unfold gCa0 at hG
        rw [gT_n k0] at hG
        exact (Option.some.inj hG).symm
      · rw [if_neg f3] at hG
        unfold gTg at hG
        rw [if_pos hk, gT_n k0] at hG
        exact (Option.some.inj hG).symm
    rw [hx]
    exact zt_call (C := True) s0 (c_takenName (bs := tkS T n q) s0.1.1 hk (Or.inl ⟨k0, rfl⟩)) (Or.inl ⟨rfl, rfl⟩)
  refine zt_call (C := True) s0 (c_takenName (bs := tkS T n q) s0.1.1 hk (Or.inr ⟨k0, rfl⟩)) (Or.inr ⟨_, rfl, trivial, fun τ1 ret n1 n2 hr xk hc => ?_⟩)
  obtain ⟨hr1, hr2⟩ := hr
  have s1 : Zy T n b u al σ tb.length sz mk (0 + n1) (0 + n2) tb o (tkN T n q) v mk w st lo qh sz [] τ1 := Zy_cx s0 hr1 xk hc (Nat.le_refl _) (Nat.le_refl _)
  have t256 := s1.1.1.2.2.2.1.2.1
  have b3 : ∀ L' : LV, x = none → Tm (fun k => f_X5_nameStatement k 3 L' τ1) (ZPo b u tb.length sz mk (zq x) (fun r _ τ => SzR T n b u al gl Pc Vm tb o mk sz q v w st lo qh r τ) σ (0 + n1) (0 + n2)) := by
    intro L' hx
    refine Tm_suc (fun k => by rw [f_X5_nameStatement]) ?_
    rw [hx]
    exact zt_ref s1
  rcases hr2 with ⟨i, e1, lk⟩ | ⟨e1, lk⟩
  case inr =>
    have f0 := nr2 lk
    rw [e1]
    refine Tm_yes rfl ?_
    refine Tm_suc (fun k => by rw [f_X5_nameStatement]) ?_
    refine Tm_yes rfl ?_
    refine b3 _ ?_
    rw [if_neg (by omega)] at hG
    unfold gTg at hG
    rw [if_pos hk, gT_y k0, if_neg (by omega)] at hG
    exact (Option.some.inj hG).symm
  have lk1 := lk.1
  obtain ⟨en0, en1, en2, en3, en4⟩ := nr1 i lk
  obtain ⟨t1, t2, t3, t4, t5, t6, t7⟩ := s1.1.1.2.2.2.1.2.2 i lk1
  have n3' := n3 i lk1
  have ii : ¬ (nI i < 0 ∨ 256 ≤ (nI i).toNatClampNeg) := n_in (by omega) (by omega)
  have ci : (nI i).toNatClampNeg = i := n_cl (by omega)
  rw [e1]
  refine Tm_no (n_mn (by omega)) ?_
  refine Tm_suc (fun k => by rw [f_X5_nameStatement]) ?_
  refine Tm_oP (Zy_pp s1) ?_
  show Tm (fun k => if ¬ (nI i < 0 ∨ 256 ≤ (nI i).toNatClampNeg) then f_X5_nameStatement k 2 (lI (lI (lI L 1 (σ.1 3703)) 2 (nI i)) 100 (τ1.2.2.1 (pR7 b) (nI i).toNatClampNeg)) τ1 else none) _
  refine Tm_chk ii ?_
  rw [ci, t4]
  refine Tm_suc (fun k => by rw [f_X5_nameStatement]) ?_
  have c : (tb.getD i e0E).2.1 = 0 ∨ (tb.getD i e0E).2.1 = 1 ∨ (tb.getD i e0E).2.1 = 2 := by omega
  have e100 : (lI (lI (lI L 1 (σ.1 3703)) 2 (nI i)) 100 (nI (tb.getD i e0E).2.1)).1 100 = nI (tb.getD i e0E).2.1 := rfl
  rw [e100]
  rcases c with c | c | c
  · -- a variable
    obtain ⟨z1, z2, z3⟩ := en1 c
    rw [if_neg (by omega)] at hG
    unfold gTg at hG
    rw [if_pos hk, gT_y k0, if_pos z1] at hG
    rw [c]
    refine Tm_no (by decide) (Tm_no (by decide) ?_)
    refine Tm_suc (fun k => by rw [f_X5_nameStatement]) ?_
    refine Tm_no (by show ¬ nI 0 = 2; decide) ?_
    refine Tm_suc (fun k => by rw [f_X5_nameStatement]) ?_
    refine Tm_oP (Zy_pp s1) ?_
    have gz : ∃ z, G T n f 12 E o (tkN T n q) v 1 bt.1 0 0 (bNode bt 7 (fd E (tkS T n q)).2.2 (nI (fd E (tkS T n q)).2.1) 0) = some z := by
      rcases gb_any hG with ⟨y1, y2⟩ | ⟨r4, y1, y2⟩
      · exact ⟨_, y1⟩
      · exact ⟨_, y1⟩
    obtain ⟨z, hz⟩ := gz
    have es : τ1.1 (fP b 1) = nI sz := s1.1.1.2.1.1
    refine zt_call (C := True) s1 (c_targetN (L := lI lZ 1 (nI i)) s1.1.1 (EvX_z ev s1.1.2.1) n10 (by omega) (by show 2 * (sz + 0) + 3 * (n - tkN T n q) + 100 ≤ _; omega) (by omega) (Nat.zero_le _) lk1 ⟨rfl, rfl⟩ rfl hz) ?_
    rcases gb_any hG with ⟨y1, y2⟩ | ⟨r, y1, y2⟩
    · rw [hz] at y1
      exact Or.inl ⟨Option.some.inj y1, by rw [y2]; rfl⟩
    rw [hz] at y1
    refine Or.inr ⟨r, Option.some.inj y1, trivial, fun τ2 ret2 n3x n4 hr xk2 hc2 => ?_⟩
    obtain ⟨er, cs, ks, r1, r2, r3, r4, r5, r6, r7, r8, r9⟩ := hr
    have s2 := Zy_cl s1 r1 xk2 hc2 r2 (Nat.le_refl _) (by omega)
    have ts : TgS T n b u al gl Vm σ (0 + n1 + n3x) (0 + n2 + n4) tb o q v mk w st lo qh sz (tb.getD i e0E).2.2.2.1 (tb.getD i e0E).2.2.1 ks cs r τ2 := ⟨s2, ⟨z2, z3, en0.2⟩, r4, r5, r3, by omega, by omega, r8, r9⟩
    have er' : ret2 = nI mk := er
    have go2 := tk_go s2.1.1
    have kv := s2.1.1
    unfold gBh0 at y2
    -- which sign comes
    by_cases k1 : tkK T n r.1 = 1
    · rw [if_neg (by omega), if_neg (by omega)] at y2
      have y3 : gT T n r.1 (fun q1 => gAs0 T n f MD E o r.2.2.1 q1 r.2.1 r.2.2.2.2.1) = some x := by
        unfold gW at y2
        rw [if_pos k1] at y2
        exact y2
      refine Tm_yes ((lx_k (kk := 1) kv (by decide)).2 k1) ?_
      exact c_nmAs ts sx0 bd0 es er' k1 y3
    refine Tm_no (fun z => k1 ((lx_k (kk := 1) kv (by decide)).1 z)) ?_
    by_cases k2 : tkK T n r.1 = 2
    · rw [if_pos (Or.inl k2)] at y2
      refine Tm_yes ((lx_k (kk := 2) kv (by decide)).2 k2) ?_
      exact c_nmOp ts sx0 bd0 er' (Or.inl k2) y2
    refine Tm_no (fun z => k2 ((lx_k (kk := 2) kv (by decide)).1 z)) ?_
    by_cases k3 : tkK T n r.1 = 3
    · rw [if_pos (Or.inr (Or.inl k3))] at y2
      refine Tm_yes ((lx_k (kk := 3) kv (by decide)).2 k3) ?_
      exact c_nmOp ts sx0 bd0 er' (Or.inr (Or.inl k3)) y2
    refine Tm_no (fun z => k3 ((lx_k (kk := 3) kv (by decide)).1 z)) ?_
    by_cases k4 : tkK T n r.1 = 4
    · rw [if_pos (Or.inr (Or.inr k4))] at y2
      refine Tm_yes ((lx_k (kk := 4) kv (by decide)).2 k4) ?_
      exact c_nmOp ts sx0 bd0 er' (Or.inr (Or.inr k4)) y2
    refine Tm_no (fun z => k4 ((lx_k (kk := 4) kv (by decide)).1 z)) ?_
    rw [if_neg (by omega)] at y2
    by_cases k57 : tkK T n r.1 = 57
    · rw [if_pos (Or.inl k57)] at y2
      refine Tm_yes ((lx_k (kk := 57) kv (by decide)).2 k57) ?_
      exact c_nmTk ts sx0 bd0 er' (Or.inl k57) y2
    refine Tm_no (fun z => k57 ((lx_k (kk := 57) kv (by decide)).1 z)) ?_
    by_cases k58 : tkK T n r.1 = 58
    · rw [if_pos (Or.inr (Or.inl k58))] at y2
      refine Tm_yes ((lx_k (kk := 58) kv (by decide)).2 k58) ?_
      exact c_nmTk ts sx0 bd0 er' (Or.inr (Or.inl k58)) y2
    refine Tm_no (fun z => k58 ((lx_k (kk := 58) kv (by decide)).1 z)) ?_
    by_cases k59 : tkK T n r.1 = 59
    · rw [if_pos (Or.inr (Or.inr k59))] at y2
      refine Tm_yes ((lx_k (kk := 59) kv (by decide)).2 k59) ?_
      exact c_nmTk ts sx0 bd0 er' (Or.inr (Or.inr k59)) y2
    refine Tm_no (fun z => k59 ((lx_k (kk := 59) kv (by decide)).1 z)) ?_
    rw [if_neg (by omega), gW_n (fun z => k1 z.1)] at y2
    refine Tm_suc (fun k => by rw [f_X5_nameStatement]) ?_
    rw [← Option.some.inj y2]
    exact zt_ref s2
  · -- a func
    have f2 := (en3 c).1
    rw [c]
    refine Tm_yes rfl ?_
    refine b3 _ ?_
    rw [if_neg (by omega)] at hG
    unfold gTg at hG
    rw [if_pos hk, gT_y k0, if_neg (by omega)] at hG
    exact (Option.some.inj hG).symm
  · -- a proc
    obtain ⟨f3, _, hs⟩ := en4 c
    rw [if_pos f3] at hG
    unfold gCa0 at hG
    rw [gT_y k0] at hG
    rw [c]
    refine Tm_no (by decide) (Tm_yes rfl ?_)
    by_cases k6 : tkK T n (tkN T n q) = 6
    · rw [if_pos k6] at hG
      refine Tm_yes ((lx_k (kk := 6) s1.1.1 (by decide)).2 k6) ?_
      exact c_nmCall (i := i) s1 (StX_k sx0 s1.1.2.1) bd0 g1 lk1 c f3 hs okn rfl rfl k6 hG
    · rw [if_neg k6] at hG
      refine Tm_no (fun z => k6 ((lx_k (kk := 6) s1.1.1 (by decide)).1 z)) ?_
      exact b3 _ (Option.some.inj hG).symm
end CXO
