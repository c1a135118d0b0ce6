/-! The class: iters of fors are read. -/
section CYF
variable {σ σ' σ0 τ τ' τ0 : CS} {L : LV} {b : Bool} {T : Nat → Int32} {n q q' u al o v mk mk' p sz sz' szB szE nc nc0 sz0 mk0 a1 a2 m kk f e s0 ow a t0 g D w st w' st' M nm deep vv np lp N Bd nb k d P h st0 b0 it q0 v0 r0 c : Nat} {y qh qh' y0 y1 wd x0 x1 x3 : Int32} {l l' cs cs' cs2 ll lt lt0 co bo : List Int32} {tb tb' es : List Ent} {ns : List Nm} {E : En} {gl : Nat × (Nat → Nat → Prop)} {Vm Vm' : Nat → Prop} {Pc : Nat → Nat → Prop} {MD : Nat → Nat → Nat} {md : Nat → Nat} {bt : BT} {ks qs qs' qa qb js qsI : List Nat} {lo lo' : Option Nat} {s : SB} {α : Type} {S : α → Int32 → CS → Prop} {x : Option α} {C : Prop} {hd : Bool}
theorem c_itersF {i0 e0 : Nat} {pre : List Int32} {x : Option RT} (h : QS T n b u al tb o q v mk 0 sz σ) (zf : ZF b u w st lo qh σ) (ev : EvX E b u al gl Vm tb σ) (bd : BdX n o q v mk 0 sz tb.length) (hw3 : w ≤ 3 * v) (fr0 : FRw u gl Pc Vm w N w 0 0 0 [] [] pre) (lp2 : pre.length = 2) (eN : sz = N + 2) (l1 : L.1 1 = 1) (hG : G T n f 17 E o q v i0 e0 E.2.2.1.length g bt = some x) (hd : 6 * (20 - o) + 8 ≤ e) : Tm (fun k => f_F2 k (e + 1) 5 0 L σ) (ZPo b u tb.length sz mk x (fun r _ τ => FtR T n b u al gl Pc Vm tb o mk N w st lo qh pre q v E r τ) σ 0 0) := by
  have s0 := Zy_0 h zf
  have b22 := bd.2.1
  have n10 := bd.1
  have u42 : u < 42 := ev.2.2.1.2
  have evm : ∀ (E2 : En) (tb2 : List Ent) (Vm2 : Nat → Prop) (τ2 : CS), NmR E2 u gl Vm2 tb2 → E2.2.2.2 = E.2.2.2 → ZK b u tb.length sz mk σ τ2 → EvX E2 b u al gl Vm2 tb2 τ2 := fun E2 tb2 Vm2 τ2 nm he xk => by
    have z := EvX_z ev xk
    exact ⟨nm, z.2.1, z.2.2.1, by rw [he]; exact z.2.2.2.1, by rw [he]; exact z.2.2.2.2⟩
  have lp : ∀ (f1 : Nat), f1 ≤ f → ∀ (K : RT → RG) (acc : List Nm) (E1 : En) (L' : LV) (τ : CS) (a1 a2 q1 v1 w1 i1 e1 it fi la : Nat) (bt1 : BT) (es : List Ent) (cs : List Int32) (xm lm : List Nat) (pl : List (Nat × Nat × Nat)), gb (G T n f1 17 E1 o q1 v1 i1 e1 E.2.2.1.length g bt1) K = some x → (∀ r : RT, ∃ r' : RT, K r = some (some r') ∧ r'.1 = r.1 ∧ r'.2.1 = r.2.1 ∧ r'.2.2.2.2.2 = r.2.2.2.2.2 ++ acc) → (E1.1 = E.1 ∧ E1.2.1 = acc ++ E.2.1 ∧ E1.2.2.2 = E.2.2.2) → Zy T n b u al σ tb.length sz mk a1 a2 (tb ++ es) o q1 v1 (mk + 3 * pl.length) w1 st lo qh sz cs τ → FRw u gl Pc Vm w N w1 pl.length fi la xm lm (pre ++ cs) → ((pl.length = 0 → L'.1 3 = -1) ∧ (1 ≤ pl.length → L'.1 3 = nI (N + fi) ∧ L'.1 4 = nI (N + la) ∧ 2 ≤ fi)) → NmR E1 u gl (VmX Vm xm) (tb ++ es) → RwE E1 E.2.2.1.length (tb ++ es) tb.length → (BdX n o q1 v1 (mk + 3 * pl.length) 0 (sz + cs.length) (tb ++ es).length ∧ w1 ≤ 3 * v1) → (∀ i, i < 3 * pl.length → τ.2.2.1 41 (mk + i) = (mkF3 pl).getD i 0) → (∀ e, e ∈ pl → (w ≤ e.1 ∧ e.1 + 1 < w1) ∧ w ≤ e.2.1 ∧ e.2.1 + e.2.2 ≤ w1) → (∀ i, i < es.length → (es.getD i e0E).2.1 = 0) → 2 * cs.length + 6 * pl.length ≤ 5 * (q1 - q) → q ≤ q1 → v + pl.length ≤ v1 → it ≤ q1 → L'.1 1 = 1 → L'.1 2 = nI tb.length → L'.1 5 = 1 → L'.1 6 = nI it → Tm (fun k => f_F2 k (e + 1) 5 1 L' τ) (ZPo b u tb.length sz mk x (fun r _ τ => FtR T n b u al gl Pc Vm tb o mk N w st lo qh pre q v E r τ) σ a1 a2) := by
    intro f1
    induction f1 with
    | zero =>
      intro _ K acc E1 L' τ a1 a2 q1 v1 w1 i1 e1 it fi la bt1 es cs xm lm pl hg
      exact absurd hg (by intro z; cases z)
    | succ f1 ih =>
      intro hf K acc E1 L' τ a1 a2 q1 v1 w1 i1 e1 it fi la bt1 es cs xm lm pl hg hK hE s1 fr hn3 ev1 re1 bdw mks ple ek ln lq lv li l1 l2 l5 l6
      obtain ⟨bd1, w13⟩ := bdw
      rw [G17_p, gb_gb] at hg
      have go1 := tk_go s1.1.1
      have b22' := bd1.2.1
      have mk3 := bd1.2.2.1
      have nt := bd1.2.2.2.1
      have v60 := s1.1.1.2.2.2.2.2.2.1.2
      have la' : (tb ++ es).length = tb.length + es.length := List.length_append
      have e11 := s1.1.1.2.2.2.1.1
      have e18 : τ.2.2.1 (pR18 b) u = nI w1 := s1.2.2.1
      have e03 : τ.1 4003 = nI u := s1.1.1.2.2.2.2.1.2.1
      have t256 := s1.1.1.2.2.2.1.2.1
      have o20 : o ≤ 20 := s1.1.1.2.2.2.2.2.1.2
      have i42 : ¬ (nI u < 0 ∨ 42 ≤ (nI u).toNatClampNeg) := u_in (by rw [u_n (by omega)]; omega) (by decide)
      have lpc : (pre ++ cs).length = cs.length + 2 := by rw [List.length_append, lp2]; omega
      have l10 : ∀ L2 : LV, L2.1 1 = 1 → ¬ L2.1 1 = 0 := fun L2 z => by rw [z]; decide
      have kx := fr.2.1
      have lal : 1 ≤ pl.length → fi + 2 ≤ cs.length + 2 ∧ la + 2 ≤ cs.length + 2 := fun z => by
        have y := fr.1.2.2 z
        rw [lpc] at y
        exact ⟨y.1, y.2.1⟩
      -- from the names on
      have b6 : ∀ (L2 : LV), L2.1 1 = 1 → L2.1 2 = nI tb.length → L2.1 3 = L'.1 3 → L2.1 4 = L'.1 4 → L2.1 6 = nI it → L2.1 7 = nI (tb ++ es).length → L2.1 8 = nI w1 → ((tkK T n q1 = 10 → L2.1 100 = 1) ∧ (¬ tkK T n q1 = 10 → L2.1 100 = 0)) → Tm (fun k => f_F2 k (e + 1) 5 6 L2 τ) (ZPo b u tb.length sz mk x (fun r _ τ => FtR T n b u al gl Pc Vm tb o mk N w st lo qh pre q v E r τ) σ a1 a2) := by
        intro L2 m1 m2 m3 m4 m6 m7 m8 m100
        have gi : ∃ z, gIn T n f1 E1 o E.2.2.1.length g q1 v1 bt1 = some z := by
          rcases gb_any hg with ⟨y1, y2⟩ | ⟨r4, y1, y2⟩
          · exact ⟨_, y1⟩
          · exact ⟨_, y1⟩
        obtain ⟨z, hz⟩ := gi
        refine Tm_suc (fun k => it_6 k _ _ _) ?_
        refine zt_callZ (C := True) s1 (c_iterNf (r0 := tb.length) s1.1.1 s1.2.2 u42 nt (by omega) m2 (by rw [la']; omega) m100 m1 re1 hz) ?_
        rcases gb_any hg with ⟨y1, y2⟩ | ⟨zz, y1, y2⟩
        · rw [hz] at y1
          exact Or.inl ⟨Option.some.inj y1, y2⟩
        rw [hz] at y1
        refine Or.inr ⟨zz, Option.some.inj y1, trivial, fun τ2 ret2 n1 n2 hr zk2 hc2 => ?_⟩
        obtain ⟨es1, i1', ⟨i2, i2'⟩, i3, i4, i5, i6⟩ := hr
        have s2 : Zy T n b u al σ tb.length sz mk (a1 + n1) (a2 + n2) (tb ++ es ++ es1) o zz.1 zz.2.1 (mk + 3 * pl.length) (w1 + es1.length) st lo qh sz cs τ2 := Zy_c0 s1 i2 zk2 hc2 (by rw [List.length_append, la']; omega) s1.1.2.2.2.2.2 i2'
        have mk2 : ∀ i, i < mk + 3 * pl.length → τ2.2.2.1 41 i = τ.2.2.1 41 i := zk2.2.2.2.2.2.2.1
        have lb : (tb ++ es ++ es1).length = tb.length + es.length + es1.length := by rw [List.length_append, la']
        have e112 := s2.1.1.2.2.2.1.1
        rw [lb] at e112
        have v602 := s2.1.1.2.2.2.2.2.2.1.2
        have t2562 := s2.1.1.2.2.2.1.2.1
        rw [lb] at t2562
        have gz := tk_go s2.1.1
        unfold gIt at y2
        rw [gb_gW] at y2
        refine Tm_oP (Zy_pp s2) ?_
        refine zt_expect (kk := 46) s2 (by decide) rfl (gW_a3 y2) (fun τ3 ret3 n3 n4 c3 s3 xk3 => ?_)
        obtain ⟨k46, c3⟩ := c3
        have w2' := tk_wl (m := 2) s2.1.1 k46 (by decide) rfl
        have kn1 : zz.2.2.1 = 0 ∨ zz.2.2.1 = 1 := by
          rcases i6 with w | w
          · exact Or.inl w.1
          · exact Or.inr w.1
        refine Tm_d ?_
        have ev3 : EvX (rowN E1 zz.2.2.2.2.2) b u al gl (VmX Vm xm) (tb ++ es ++ es1) τ3 := evm _ _ _ _ (NmR_hf ev1 i3) hE.2.2 s3.1.2.1
        have bd3 : BdX n o (tkN T n zz.1) zz.2.1 (mk + 3 * pl.length) 0 (sz + cs.length) (tb ++ es ++ es1).length := by
          obtain ⟨d1, d2, d3, d4, d5⟩ := bd1
          rw [la'] at d4
          exact ⟨d1, by omega, by omega, by rw [lb]; omega, by omega⟩
        have ec : τ2.1 (fP b 11) - L2.1 7 = nI es1.length := by
          rw [e112, m7, la', n_sub (by omega) (by omega)]
          exact congrArg nI (by omega)
        rw [gb_gb] at c3
        rcases gb_any c3 with ⟨y5, y6⟩ | ⟨s, y5, y6⟩
        · exact zt_exp4 (C := True) s3 ev3 bd3 rfl hd y5 (Or.inl ⟨rfl, y6⟩) (fun _ _ _ _ _ _ z => by cases z)
        refine zt_exp4 (C := True) s3 ev3 bd3 rfl hd y5 (Or.inr ⟨s, rfl, trivial⟩) (fun τ4 ret4 n5 n6 s' l4 hz4 _ s4 xk4 sg4 ln4 lt4 lv4 => ?_)
        cases hz4
        have go4 := tk_go s4.1.1
        have v604 := s4.1.1.2.2.2.2.2.2.1.2
        have lc : (cs ++ l4).length = cs.length + l4.length := List.length_append
        generalize hcnt : es1.length = cnt at *
        have mk4 : ∀ i, i < 3 * pl.length → τ4.2.2.1 41 (mk + i) = (mkF3 pl).getD i 0 := fun i hi => by
          rw [xk4.2.2.2.2.2.2.1 (mk + i) (by omega), xk3.2.2.2.2.2.2.1 (mk + i) (by omega), mk2 (mk + i) (by omega)]
          exact mks i hi
        have cnt1 : 1 ≤ cnt := by omega
        have b16 := c_itF16 (qe := tkN T n zz.1) (l4 := l4) (fun K acc E1 L' τ a1 a2 q1 v1 w1 i1 e1 it fi la bt1 es cs xm lm pl => ih (by omega) K acc E1 L' τ a1 a2 q1 v1 w1 i1 e1 it fi la bt1 es cs xm lm pl) hK hE fr (fun z => (hn3.2 z).2.2) lpc eN ev1 re1 ple ek u42 evm hcnt cnt1 i3 sg4 y6 n10 o20 b22' mk3 (by rw [la'] at nt; omega) w13 ln lq lv li ⟨i5, w2', lt4⟩ kn1 ln4 ⟨by omega, v604⟩ go4
        refine Tm_no (l10 _ m1) ?_
        refine Tm_oP (Zy_pp s4) ?_
        have e034 : τ4.1 4003 = nI u := s4.1.1.2.2.2.2.1.2.1
        have nsl := c_newSlotsM (L := lI (lI (lB lZ 0 b) 1 (τ4.1 4003)) 2 2) (k0 := 2) s4 u42 (by omega) rfl e034 rfl
        refine Tm_op nsl (fun r7 z7 => ?_)
        obtain ⟨er7, s7, r41⟩ := z7
        refine Tm_suc (fun k => it_8 k _ _ _) ?_
        refine Tm_oP (Zy_pp s7) ?_
        refine Tm_no (l10 _ m1) ?_
        refine Tm_suc (fun k => it_10 k _ _ _) ?_
        refine zt_emit (op := 69) s7 rfl rfl (by rw [lc]; omega) (fun τ8 x1 x2 s8 xk8 => ?_)
        refine Tm_oP (Zy_pp s8) ?_
        refine Tm_no (l10 _ m1) ?_
        refine Tm_suc (fun k => it_12 k _ _ _) ?_
        have ld : ∀ w : Int32, (cs ++ l4 ++ [em 69 w]).length = cs.length + l4.length + 1 := fun w => by rw [List.length_append, lc]; rfl
        refine zt_emit (op := 70) s8 rfl rfl (by rw [ld]; omega) (fun τ9 x3 x4 s9 xk9 => ?_)
        refine Tm_oP (Zy_pp s9) ?_
        have le' : ∀ w w' : Int32, (cs ++ l4 ++ [em 69 w] ++ [em 70 w']).length = cs.length + l4.length + 2 := fun w w' => by rw [List.length_append, ld]; rfl
        refine zt_word s9 rfl (by rw [le']; omega) (fun τ10 x5 x6 s10 xk10 => ?_)
        have eNx : ∀ k : Nat, sz + (cs.length + l4.length + 1) = N + (cs.length + 2 + l4.length + 1) := fun _ => by rw [eN]; omega
        have s10' : Zy T n b u al σ tb.length sz mk (a1 + n1 + n3 + n5 + x1 + x3 + x5) (a2 + n2 + n4 + n6 + x2 + x4 + x6) (tb ++ es ++ es1) o s.1 s.2.1 (mk + 3 * pl.length) (w1 + cnt + 2) st lo qh sz (cs ++ (l4 ++ [em 69 (nI (w1 + cnt)), em 70 (nI (w1 + cnt)), L2.1 4 - nI (N + (cs.length + 2 + l4.length + 1))])) τ10 := by
          have e1' : cs ++ (l4 ++ [em 69 (nI (w1 + cnt)), em 70 (nI (w1 + cnt)), L2.1 4 - nI (N + (cs.length + 2 + l4.length + 1))]) = cs ++ l4 ++ [em 69 (nI (w1 + cnt))] ++ [em 70 (nI (w1 + cnt))] ++ [L2.1 4 - nI (N + (cs.length + 2 + l4.length + 1))] := by simp only [List.append_assoc]; rfl
          rw [e1', ← er7]
          have e2' := ld r7.1
          have s10'' : Zy T n b u al σ tb.length sz mk (a1 + n1 + n3 + n5 + x1 + x3 + x5) (a2 + n2 + n4 + n6 + x2 + x4 + x6) (tb ++ es ++ es1) o s.1 s.2.1 (mk + 3 * pl.length) (w1 + cnt + 2) st lo qh sz (cs ++ l4 ++ [em 69 r7.1] ++ [em 70 r7.1] ++ [L2.1 4 - nI (sz + (cs ++ l4 ++ [em 69 r7.1]).length)]) τ10 := s10
          rw [e2', eNx 0] at s10''
          exact s10''
        have mk10 : ∀ i, i < 3 * pl.length → τ10.2.2.1 41 (mk + i) = (mkF3 pl).getD i 0 := fun i hi => by
          rw [xk10.2.2.2.2.2.2.1 (mk + i) (by omega), xk9.2.2.2.2.2.2.1 (mk + i) (by omega), xk8.2.2.2.2.2.2.1 (mk + i) (by omega), r41]
          exact mk4 i hi
        have nxe : nI (sz + (cs ++ l4 ++ [em 69 r7.1]).length) = nI (N + (cs.length + 2 + l4.length + 1)) := by rw [ld, eNx 0]
        have hwd : 1 ≤ pl.length → L2.1 4 - nI (N + (cs.length + 2 + l4.length + 1)) = nI la - nI (cs.length + 2 + l4.length + 1) := fun z => by
          have z2 := lal z
          rw [m4, (hn3.2 z).2.1]
          exact n_ss N la (cs.length + 2 + l4.length + 1) (by omega) (by omega)
        -- which is first
        have b14 : ∀ (L6 : LV) (fx : Nat), L6.1 1 = 1 → L6.1 2 = nI tb.length → L6.1 6 = nI it → L6.1 7 = nI (tb ++ es).length → L6.1 8 = nI w1 → L6.1 9 = L2.1 100 → L6.1 10 = nI cnt → L6.1 11 = nI (w1 + cnt) → L6.1 12 = nI (N + (cs.length + 2 + l4.length + 1)) → L6.1 100 = nI (N + fx) → fx = (if pl.length = 0 then cs.length + 2 + l4.length + 1 else fi) → Tm (fun k => f_F2 k (e + 1) 5 14 L6 τ10) (ZPo b u tb.length sz mk x (fun r _ τ => FtR T n b u al gl Pc Vm tb o mk N w st lo qh pre q v E r τ) σ (a1 + n1 + n3 + n5 + x1 + x3 + x5) (a2 + n2 + n4 + n6 + x2 + x4 + x6)) := by
          intro L6 fx h1 h2 h6 h7 h8 h9 h10 h11 h12 h100 hfx
          refine Tm_suc (fun k => it_14 k _ _ _) ?_
          rw [h9]
          rcases i6 with ⟨z1, z2, z3⟩ | ⟨z1, z2⟩
          · refine Tm_yes (m100.2 z3) ?_
            refine Tm_suc (fun k => it_15 k _ _ _) ?_
            exact b16 _ τ10 _ _ 0 fx _ h1 h2 h100 hfx h12 h6 h7 h8 h10 h11 rfl h8 (Or.inl ⟨rfl, z2⟩) hwd mk10 s10'
          · refine Tm_no (by rw [m100.1 z2]; decide) ?_
            exact b16 _ τ10 _ _ cnt fx _ h1 h2 h100 hfx h12 h6 h7 h8 h10 h11 h10 h8 (Or.inr ⟨rfl, z1⟩) hwd mk10 s10'
        by_cases nln : pl.length = 0
        · refine Tm_yes (by show L2.1 3 = -1; rw [m3]; exact hn3.1 nln) ?_
          refine b14 _ (cs.length + 2 + l4.length + 1) m1 m2 m6 m7 m8 rfl ec er7 nxe nxe ?_
          rw [if_pos nln]
        · obtain ⟨h31, h32⟩ := hn3.2 (by omega)
          have z2 := lal (by omega)
          refine Tm_no (by show ¬ L2.1 3 = -1; rw [m3, h31]; exact n_mn (by omega)) ?_
          refine Tm_suc (fun k => it_13 k _ _ _) ?_
          refine b14 _ fi m1 m2 m6 m7 m8 rfl ec er7 nxe (by show L2.1 3 = _; rw [m3]; exact h31) ?_
          rw [if_neg nln]
      refine Tm_suc (fun k => it_1 k _ _ _) ?_
      refine Tm_no (by rw [l6]; show ¬ nI 32768 < nI it; rw [n_lt (by decide) (by omega)]; omega) ?_
      refine Tm_no (by rw [l5]; decide) ?_
      refine Tm_oP (Zy_pp s1) ?_
      refine Tm_no (l10 _ l1) ?_
      refine Tm_oP (Zy_pp s1) ?_
      rw [e03]
      refine Tm_chk i42 ?_
      rw [n_cl (p := u) (by omega), e18]
      refine Tm_suc (fun k => it_4 k _ _ _) ?_
      by_cases k10 : tkK T n q1 = 10
      · refine Tm_yes ((lx_k (kk := 10) s1.1.1 (by decide)).2 k10) ?_
        exact b6 _ l1 l2 rfl rfl l6 e11 rfl ⟨fun _ => rfl, fun z => absurd k10 z⟩
      · refine Tm_no (fun z => k10 ((lx_k (kk := 10) s1.1.1 (by decide)).1 z)) ?_
        refine Tm_suc (fun k => it_5 k _ _ _) ?_
        exact b6 _ l1 l2 rfl rfl l6 e11 rfl ⟨fun z => absurd z k10, fun _ => rfl⟩
  refine Tm_suc (fun k => it_0 k _ _ _) ?_
  refine Tm_oP (Zy_pp s0) ?_
  have s0' : Zy T n b u al σ tb.length sz mk 0 0 (tb ++ []) o q v (mk + 3 * ([] : List (Nat × Nat × Nat)).length) w st lo qh sz [] σ := by rw [List.append_nil]; exact s0
  refine lp f (Nat.le_refl _) (fun r => some (some r)) [] E _ σ 0 0 q v w i0 e0 0 0 0 bt [] [] [] [] [] (by rw [gb_id]; exact hG) (fun r => ⟨r, rfl, rfl, rfl, by rw [List.append_nil]⟩) ⟨rfl, rfl, rfl⟩ s0' (by rw [List.append_nil]; exact fr0) ⟨fun _ => rfl, fun z => absurd z (by decide)⟩ ?_ ?_ ⟨?_, hw3⟩ (fun i hi => absurd hi (by show ¬ i < 3 * 0; omega)) (fun e he => absurd he List.not_mem_nil) (fun i hi => absurd hi (Nat.not_lt_zero _)) (by show 2 * 0 + 6 * 0 ≤ _; omega) (Nat.le_refl _) (Nat.le_refl _) (Nat.zero_le _) l1 s0.1.1.2.2.2.1.1 rfl rfl
  · rw [List.append_nil]
    exact ⟨ev.1.1, fun bs ok => ⟨fun i lk => EntR_m ((ev.1.2 bs ok).1 i lk) rfl rfl (fun i z => Or.inl z), (ev.1.2 bs ok).2⟩⟩
  · rw [List.append_nil]
    refine ⟨Nat.le_refl _, fun bs => ⟨fun z => ?_, fun z => ?_⟩⟩
    · obtain ⟨nm, z1, z2⟩ := z
      rw [Nat.sub_self, List.take_zero] at z1
      cases z1
    · obtain ⟨j, z1, z2, z3⟩ := z
      omega
  · rw [List.append_nil]
    exact bd
end CYF
