/-! The class: iters of fors are read. -/
section CYE
variable {σ σ' σ0 τ τ' τ0 : CS} {L : LV} {b : Bool} {T : Nat → Int32} {n q q' u al o v mk mk' p sz sz' szB szE nc nc0 sz0 mk0 a1 a2 m kk f e s0 ow a t0 g D w st w' st' M nm deep vv np lp N Bd nb k d P h st0 b0 it q0 v0 r0 c : Nat} {y qh qh' y0 y1 wd x0 x1 x3 : Int32} {l l' cs cs' cs2 ll lt lt0 co bo : List Int32} {tb tb' es : List Ent} {ns : List Nm} {E : En} {gl : Nat × (Nat → Nat → Prop)} {Vm Vm' : Nat → Prop} {Pc : Nat → Nat → Prop} {MD : Nat → Nat → Nat} {md : Nat → Nat} {bt : BT} {ks qs qs' qa qb js qsI : List Nat} {lo lo' : Option Nat} {s : SB} {α : Type} {S : α → Int32 → CS → Prop} {x : Option α} {C : Prop} {hd : Bool}
theorem c_newSlotsM {k0 : Nat} (h : Zy T n b u al σ0 nc0 sz0 mk0 a1 a2 tb o q v mk w st lo qh szB cs τ) (hu : u < 42) (hw : w + k0 < 2147483648) (hb : L.2.2.1 0 = b) (h1 : L.1 1 = nI u) (h2 : L.1 2 = nI k0) : Tm (fun k => y_X7_newSlots__P k 0 L τ) (fun r => r.1 = nI w ∧ Zy T n b u al σ0 nc0 sz0 mk0 a1 a2 tb o q v mk (w + k0) st lo qh szB cs r.2 ∧ r.2.2.2.1 41 = τ.2.2.1 41) := by
  have i42 : ¬ (nI u < 0 ∨ 42 ≤ (nI u).toNatClampNeg) := u_in (by rw [u_n (by omega)]; omega) (by decide)
  have zf := h.2.2
  have pc2 := pR18_c b
  refine Tm_suc (fun k => by rw [y_X7_newSlots__P]) ?_
  rw [hb, h1, h2]
  refine Tm_chk i42 (Tm_chk i42 (Tm_chk i42 ?_))
  rw [n_cl (p := u) (by omega), zf.1, n_add hw]
  refine Tm_some ⟨?_, Zy_r h (Or.inr rfl) ⟨by rw [uA_r, upd_same], zf.2⟩, uA_k (by omega)⟩
  show (uA τ (pR18 b) u (nI (w + k0))).2.2.1 (pR18 b) u - nI k0 = nI w
  rw [uA_r, upd_same, n_sub (by omega) (by omega)]
  exact congrArg nI (by omega)
/-- the loop over iters, from one on -/
def LpF (T : Nat → Int32) (n : Nat) (b : Bool) (u al : Nat) (gl : Nat × (Nat → Nat → Prop)) (Pc : Nat → Nat → Prop) (Vm : Nat → Prop) (E : En) (tb : List Ent) (o mk N w st : Nat) (lo : Option Nat) (qh : Int32) (pre : List Int32) (q v sz g e : Nat) (x : Option RT) (σ : CS) (f1 : Nat) : Prop := ∀ (K : RT → RG) (acc : List Nm) (E1 : En) (L' : LV) (τ : CS) (a1 a2 q1 v1 w1 i1 e1 it fi la : Nat) (bt1 : BT) (es : List Ent) (cs : List Int32) (xm lm : List Nat) (pl : List (Nat × Nat × Nat)), gb (G T n f1 17 E1 o q1 v1 i1 e1 E.2.2.1.length g bt1) K = some x → (∀ r : RT, ∃ r' : RT, K r = some (some r') ∧ r'.1 = r.1 ∧ r'.2.1 = r.2.1 ∧ r'.2.2.2.2.2 = r.2.2.2.2.2 ++ acc) → (E1.1 = E.1 ∧ E1.2.1 = acc ++ E.2.1 ∧ E1.2.2.2 = E.2.2.2) → Zy T n b u al σ tb.length sz mk a1 a2 (tb ++ es) o q1 v1 (mk + 3 * pl.length) w1 st lo qh sz cs τ → FRw u gl Pc Vm w N w1 pl.length fi la xm lm (pre ++ cs) → ((pl.length = 0 → L'.1 3 = -1) ∧ (1 ≤ pl.length → L'.1 3 = nI (N + fi) ∧ L'.1 4 = nI (N + la) ∧ 2 ≤ fi)) → NmR E1 u gl (VmX Vm xm) (tb ++ es) → RwE E1 E.2.2.1.length (tb ++ es) tb.length → (BdX n o q1 v1 (mk + 3 * pl.length) 0 (sz + cs.length) (tb ++ es).length ∧ w1 ≤ 3 * v1) → (∀ i, i < 3 * pl.length → τ.2.2.1 41 (mk + i) = (mkF3 pl).getD i 0) → (∀ e, e ∈ pl → (w ≤ e.1 ∧ e.1 + 1 < w1) ∧ w ≤ e.2.1 ∧ e.2.1 + e.2.2 ≤ w1) → (∀ i, i < es.length → (es.getD i e0E).2.1 = 0) → 2 * cs.length + 6 * pl.length ≤ 5 * (q1 - q) → q ≤ q1 → v + pl.length ≤ v1 → it ≤ q1 → L'.1 1 = 1 → L'.1 2 = nI tb.length → L'.1 5 = 1 → L'.1 6 = nI it → Tm (fun k => f_F2 k (e + 1) 5 1 L' τ) (ZPo b u tb.length sz mk x (fun r _ τ => FtR T n b u al gl Pc Vm tb o mk N w st lo qh pre q v E r τ) σ a1 a2)
theorem c_itF16 {f1 e : Nat} {pre l4 : List Int32} {x : Option RT} {K : RT → RG} {acc : List Nm} {E1 : En} {q1 v1 w1 i1 e1 fi la cnt qe : Nat} {es1 : List Ent} {xm lm : List Nat} {pl : List (Nat × Nat × Nat)} {zz s : RT} (ih : LpF T n b u al gl Pc Vm E tb o mk N w st lo qh pre q v sz g e x σ f1) (hK : ∀ r : RT, ∃ r' : RT, K r = some (some r') ∧ r'.1 = r.1 ∧ r'.2.1 = r.2.1 ∧ r'.2.2.2.2.2 = r.2.2.2.2.2 ++ acc) (hE : E1.1 = E.1 ∧ E1.2.1 = acc ++ E.2.1 ∧ E1.2.2.2 = E.2.2.2) (fr : FRw u gl Pc Vm w N w1 pl.length fi la xm lm (pre ++ cs)) (hfi : 1 ≤ pl.length → 2 ≤ fi) (lpc : (pre ++ cs).length = cs.length + 2) (eN : sz = N + 2) (ev1 : NmR E1 u gl (VmX Vm xm) (tb ++ es)) (re1 : RwE E1 E.2.2.1.length (tb ++ es) tb.length) (ple : ∀ e, e ∈ pl → (w ≤ e.1 ∧ e.1 + 1 < w1) ∧ w ≤ e.2.1 ∧ e.2.1 + e.2.2 ≤ w1) (ek : ∀ i, i < es.length → (es.getD i e0E).2.1 = 0) (u42 : u < 42) (evm : ∀ (E2 : En) (tb2 : List Ent) (Vm2 : Nat → Prop) (τ2 : CS), NmR E2 u gl Vm2 tb2 → E2.2.2.2 = E.2.2.2 → ZK b u tb.length sz mk σ τ2 → EvX E2 b u al gl Vm2 tb2 τ2) (hcnt : es1.length = cnt) (cnt1 : 1 ≤ cnt) (i3 : NsF u w1 true es1 zz.2.2.2.2.2) (sg4 : Sgm u 0 gl (VmX Vm xm) 1 l4) (y6 : gb (if tkK T n s.1 = 12 then gT T n s.1 (fun q3 => gb (G T n f1 17 (rowN (seeN E1 zz.2.2.2.2.2) zz.2.2.2.2.2) o q3 s.2.1 (if i1 = 0 then s.2.2.2.2.1.1 else i1) s.2.2.2.2.1.1 E.2.2.1.length g (if i1 = 0 then bNode s.2.2.2.2.1 30 (if zz.2.2.1 = 0 then 0 else 1) (nI zz.2.2.2.1) (nI s.2.2.2.1) else bSet (bNode s.2.2.2.2.1 30 (if zz.2.2.1 = 0 then 0 else 1) (nI zz.2.2.2.1) (nI s.2.2.2.1)) 9 e1 (nI s.2.2.2.2.1.1))) (fun t => some (some (t.1, t.2.1, 0, t.2.2.2.1, t.2.2.2.2.1, t.2.2.2.2.2 ++ zz.2.2.2.2.2)))) else some (some (s.1, s.2.1, 0, (if i1 = 0 then s.2.2.2.2.1.1 else i1), (if i1 = 0 then bNode s.2.2.2.2.1 30 (if zz.2.2.1 = 0 then 0 else 1) (nI zz.2.2.2.1) (nI s.2.2.2.1) else bSet (bNode s.2.2.2.2.1 30 (if zz.2.2.1 = 0 then 0 else 1) (nI zz.2.2.2.1) (nI s.2.2.2.1)) 9 e1 (nI s.2.2.2.2.1.1)), zz.2.2.2.2.2))) K = some x) (n10 : n ≤ 10240) (o20 : o ≤ 20) (bA : 2 * (sz + cs.length) + 3 * (n - q1) + 100 ≤ 73728) (bB : mk + 3 * pl.length ≤ 2 * q1 + 18 * o) (bC : tb.length + es.length + cnt + (60 - s.2.1) ≤ 256) (w13 : w1 ≤ 3 * v1) (ln : 2 * cs.length + 6 * pl.length ≤ 5 * (q1 - q)) (lq : q ≤ q1) (lv : v + pl.length ≤ v1) (li : it ≤ q1) (iA : q1 + 1 + 2 * zz.2.2.1 ≤ zz.1 ∧ zz.1 + 2 ≤ qe ∧ qe < s.1) (kn1 : zz.2.2.1 = 0 ∨ zz.2.2.1 = 1) (ln4 : 2 * l4.length ≤ 3 * (s.1 - qe) + 1) (vA : v1 + cnt ≤ s.2.1 ∧ s.2.1 ≤ 60) (go4 : s.1 ≤ n ∧ tkN T n s.1 ≤ n ∧ (¬ tkK T n s.1 = 25 → s.1 < tkN T n s.1)) : ∀ (L5 : LV) (τ5 : CS) (a5 a6 c0 fx : Nat) (wd : Int32), L5.1 1 = 1 → L5.1 2 = nI tb.length → L5.1 3 = nI (N + fx) → fx = (if pl.length = 0 then cs.length + 2 + l4.length + 1 else fi) → L5.1 4 = nI (N + (cs.length + 2 + l4.length + 1)) → L5.1 6 = nI it → L5.1 7 = nI (tb ++ es).length → L5.1 8 = nI w1 → L5.1 10 = nI cnt → L5.1 11 = nI (w1 + cnt) → L5.1 100 = nI c0 → L5.1 101 = nI w1 → (c0 = 0 ∧ cnt = 1 ∨ c0 = cnt ∧ zz.2.2.1 = 1) → (1 ≤ pl.length → wd = nI la - nI (cs.length + 2 + l4.length + 1)) → (∀ i, i < 3 * pl.length → τ5.2.2.1 41 (mk + i) = (mkF3 pl).getD i 0) → Zy T n b u al σ tb.length sz mk a5 a6 (tb ++ es ++ es1) o s.1 s.2.1 (mk + 3 * pl.length) (w1 + cnt + 2) st lo qh sz (cs ++ (l4 ++ [em 69 (nI (w1 + cnt)), em 70 (nI (w1 + cnt)), wd])) τ5 → Tm (fun k => f_F2 k (e + 1) 5 16 L5 τ5) (ZPo b u tb.length sz mk x (fun r _ τ => FtR T n b u al gl Pc Vm tb o mk N w st lo qh pre q v E r τ) σ a5 a6) := by
  have hfi2 : 2 ≤ (if pl.length = 0 then cs.length + 2 + l4.length + 1 else fi) := by
    by_cases z : pl.length = 0
    · rw [if_pos z]; omega
    · rw [if_neg z]; exact hfi (by omega)
  have kx := fr.2.1
  have la' : (tb ++ es).length = tb.length + es.length := List.length_append
  have lb : (tb ++ es ++ es1).length = tb.length + es.length + es1.length := by rw [List.length_append, la']
  have l10 : ∀ L2 : LV, L2.1 1 = 1 → ¬ L2.1 1 = 0 := fun L2 z => by rw [z]; decide
  intro L5 τ5 a5 a6 c0 fx wd h1 h2 h3 hfx h4 h6 h7 h8 h10 h11 h100 h101 hc0 hwd mk5 s5
  have lcs : (cs ++ (l4 ++ [em 69 (nI (w1 + cnt)), em 70 (nI (w1 + cnt)), wd])).length = cs.length + l4.length + 3 := by rw [List.length_append, List.length_append]; show cs.length + (l4.length + 3) = _; omega
  refine Tm_suc (fun k => it_16 k _ _ _) ?_
  refine zt_store (k0 := w1) (c0 := c0) s5 h101 h100 h1 (by omega) (by rw [lcs]; omega) (fun τ6 ret6 n7 n8 s6 xk6 => ?_)
  have hlo : (if c0 = 0 then [em 71 (nI w1)] else [em 72 (nI w1), nI c0]).length ≤ 1 + zz.2.2.1 ∧ 1 ≤ (if c0 = 0 then [em 71 (nI w1)] else [em 72 (nI w1), nI c0]).length := by
    rcases hc0 with ⟨z1, z2⟩ | ⟨z1, z2⟩
    · rw [if_pos z1]; exact ⟨by show 1 ≤ _; omega, by show 1 ≤ 1; omega⟩
    · rw [if_neg (by omega)]; exact ⟨by show 2 ≤ _; omega, by show 1 ≤ 2; omega⟩
  have hnm : FNm w1 cnt (if c0 = 0 then [em 71 (nI w1)] else [em 72 (nI w1), nI c0]) := by
    refine ⟨by omega, ?_⟩
    rcases hc0 with ⟨z1, z2⟩ | ⟨z1, z2⟩
    · rw [if_pos z1]; exact Or.inl ⟨z2, rfl⟩
    · rw [if_neg (by omega), z1]; exact Or.inr rfl
  generalize (if c0 = 0 then [em 71 (nI w1)] else [em 72 (nI w1), nI c0]) = ins at *
  have eap : cs ++ (l4 ++ [em 69 (nI (w1 + cnt)), em 70 (nI (w1 + cnt)), wd]) ++ ins = cs ++ (l4 ++ (em 69 (nI (w1 + cnt)) :: em 70 (nI (w1 + cnt)) :: wd :: ins)) := by rw [List.append_assoc, List.append_assoc]; rfl
  rw [eap] at s6
  have lfull : (cs ++ (l4 ++ (em 69 (nI (w1 + cnt)) :: em 70 (nI (w1 + cnt)) :: wd :: ins))).length = cs.length + l4.length + 3 + ins.length := by rw [← eap, List.length_append, lcs]
  have fr2 := FRw_ad (wd := wd) fr (Vm' := VmX Vm xm) (fun i z => z) (fun i z => Or.inl z) sg4 hnm (by omega) (fun z => by rw [hwd z, lpc])
  rw [lpc, List.append_assoc] at fr2
  generalize hcs' : cs ++ (l4 ++ (em 69 (nI (w1 + cnt)) :: em 70 (nI (w1 + cnt)) :: wd :: ins)) = cs' at *
  have hVn : ∀ j, j < cnt → VmX Vm (vmL w1 cnt ++ (w1 + cnt) :: xm) (500000 + (w1 + j)) := fun j hj => VmX_nw kx (by omega) hj
  have hVm : ∀ i, VmX Vm xm i → VmX Vm (vmL w1 cnt ++ (w1 + cnt) :: xm) i := fun i z => VmX_mo kx (by omega) z
  generalize hxm' : vmL w1 cnt ++ (w1 + cnt) :: xm = xm' at *
  have nms2 := NsF_see i3
  have ls1 : (seeE es1).length = cnt := by rw [seeE_l, hcnt]
  have nm2 : NmR (rowN (seeN E1 zz.2.2.2.2.2) zz.2.2.2.2.2) u gl (VmX Vm xm') (tb ++ es ++ seeE es1) := by
    refine NmR_sf ev1 nms2 (by rw [ls1]; omega) (fun i hi => ?_) hVm u42
    rw [ls1] at hi
    exact hVn i hi
  have re2 : RwE (rowN (seeN E1 zz.2.2.2.2.2) zz.2.2.2.2.2) E.2.2.1.length (tb ++ es ++ seeE es1) tb.length := RwE_nf re1 (by rw [la']; omega) nms2
  have hE2 : (rowN (seeN E1 zz.2.2.2.2.2) zz.2.2.2.2.2).1 = E.1 ∧ (rowN (seeN E1 zz.2.2.2.2.2) zz.2.2.2.2.2).2.1 = (zz.2.2.2.2.2 ++ acc) ++ E.2.1 ∧ (rowN (seeN E1 zz.2.2.2.2.2) zz.2.2.2.2.2).2.2.2 = E.2.2.2 := by
    refine ⟨hE.1, ?_, hE.2.2⟩
    show zz.2.2.2.2.2 ++ E1.2.1 = _
    rw [hE.2.1, List.append_assoc]
  have lse : (tb ++ es ++ seeE es1).length = tb.length + es.length + cnt := by rw [List.length_append, la', ls1]
  have eas : tb ++ es ++ seeE es1 = tb ++ (es ++ seeE es1) := List.append_assoc _ _ _
  have lpl : (pl ++ [(w1 + cnt, w1, cnt)]).length = pl.length + 1 := by rw [List.length_append]; rfl
  have bd2 : BdX n o s.1 s.2.1 (mk + 3 * (pl.length + 1)) 0 (sz + cs'.length) (tb ++ es ++ seeE es1).length := by
    exact ⟨n10, by rw [lfull]; omega, by omega, by rw [lse]; omega, by omega⟩
  have mk6 : ∀ i, i < 3 * pl.length → τ6.2.2.1 41 (mk + i) = (mkF3 pl).getD i 0 := fun i hi => by
    rw [xk6.2.2.2.2.2.2.1 (mk + i) (by omega)]; exact mk5 i hi
  have ple2 : ∀ e, e ∈ pl ++ [(w1 + cnt, w1, cnt)] → (w ≤ e.1 ∧ e.1 + 1 < w1 + cnt + 2) ∧ w ≤ e.2.1 ∧ e.2.1 + e.2.2 ≤ w1 + cnt + 2 := fun e he => by
    have ww := fr.1.1
    rcases List.mem_append.1 he with z | z
    · have y := ple e z; omega
    · rcases List.mem_cons.1 z with z | z
      · rw [z]; exact ⟨⟨by show w ≤ w1 + cnt; omega, by show w1 + cnt + 1 < _; omega⟩, ww, by show w1 + cnt ≤ _; omega⟩
      · exact absurd z List.not_mem_nil
  have ek2 : ∀ i, i < (es ++ seeE es1).length → ((es ++ seeE es1).getD i e0E).2.1 = 0 := fun i hi => by
    rw [List.length_append, ls1] at hi
    by_cases z : i < es.length
    · rw [gE_l z]; exact ek i z
    · have y := gE_r (a := es) (c := seeE es1) (i - es.length)
      rw [show es.length + (i - es.length) = i by omega] at y
      rw [y, nms2.1 _ (by rw [ls1]; omega)]
  refine zt_see (tb := tb ++ es) (L := lI L5 13 (L5.1 7)) (R4 := τ6.2.2.1 41) es1 (by rw [lb]; omega) (fun L7 τ7 k1 k2 s7 r7 => ?_) (by rw [la']; omega) es1.length 0 _ τ6 (by omega) (by show L5.1 7 = _; rw [h7]; rfl) (fun _ _ => rfl) rfl s6 rfl
  have g1' : L7.1 1 = 1 := by rw [k1 1 (by decide)]; exact h1
  have g8' : L7.1 8 = nI w1 := by rw [k1 8 (by decide)]; exact h8
  have g10' : L7.1 10 = nI cnt := by rw [k1 10 (by decide)]; exact h10
  have g11' : L7.1 11 = nI (w1 + cnt) := by rw [k1 11 (by decide)]; exact h11
  refine Tm_suc (fun k => it_18 k _ _ _) ?_
  refine Tm_no (l10 _ g1') ?_
  refine zt_mark s7 (by omega) (fun τa j1 j2 sa xka ma => ?_)
  refine zt_mark sa (by omega) (fun τb j3 j4 sb xkb mb => ?_)
  refine zt_mark sb (by omega) (fun τc j5 j6 sc xkc mc => ?_)
  have ma' : τa.2.2.1 41 (mk + 3 * pl.length) = nI (w1 + cnt) := ma.trans g11'
  have mb' : τb.2.2.1 41 (mk + 3 * pl.length + 1) = nI w1 := mb.trans g8'
  have mc' : τc.2.2.1 41 (mk + 3 * pl.length + 1 + 1) = nI cnt := mc.trans g10'
  have mkC : ∀ i, i < 3 * (pl ++ [(w1 + cnt, w1, cnt)]).length → τc.2.2.1 41 (mk + i) = (mkF3 (pl ++ [(w1 + cnt, w1, cnt)])).getD i 0 := fun i hi => by
    rw [lpl] at hi
    rw [mkF3_a]
    have l3 := mkF3_l pl
    by_cases c1 : i < 3 * pl.length
    · rw [gd_l (by omega), xkc.2.2.2.2.2.2.1 (mk + i) (by omega), xkb.2.2.2.2.2.2.1 (mk + i) (by omega), xka.2.2.2.2.2.2.1 (mk + i) (by omega), r7]
      exact mk6 i c1
    · have y := gd_r (a := mkF3 pl) (b := [nI (w1 + cnt), nI w1, nI cnt]) (i - 3 * pl.length)
      rw [l3, show 3 * pl.length + (i - 3 * pl.length) = i by omega] at y
      rw [y]
      have c2 : i = 3 * pl.length ∨ i = 3 * pl.length + 1 ∨ i = 3 * pl.length + 2 := by omega
      rcases c2 with c2 | c2 | c2
      · rw [c2, Nat.sub_self, xkc.2.2.2.2.2.2.1 _ (by omega), xkb.2.2.2.2.2.2.1 _ (by omega)]; exact ma'
      · rw [c2, show 3 * pl.length + 1 - 3 * pl.length = 1 by omega, ← Nat.add_assoc, xkc.2.2.2.2.2.2.1 _ (by omega)]; exact mb'
      · rw [c2, show 3 * pl.length + 2 - 3 * pl.length = 2 by omega]; exact mc'
  have sc' : Zy T n b u al σ tb.length sz mk (a5 + n7 + j1 + j3 + j5) (a6 + n8 + j2 + j4 + j6) (tb ++ es ++ seeE es1) o s.1 s.2.1 (mk + 3 * (pl ++ [(w1 + cnt, w1, cnt)]).length) (w1 + cnt + 2) st lo qh sz cs' τc := by
    rw [lpl]; exact sc
  refine Tm_suc (fun k => it_19 k _ _ _) ?_
  by_cases k12 : tkK T n s.1 = 12
  · rw [if_pos k12, gb_gT] at y6
    simp only [gb_gb] at y6
    refine Tm_yes ((lx_k (kk := 12) sc'.1.1 (by decide)).2 k12) ?_
    refine Tm_suc (fun k => it_21 k _ _ _) ?_
    refine Tm_no (by show ¬ (1 : Int32) = 0; decide) ?_
    refine zt_adv sc' (gT_any y6) (fun τ8 ret8 j7 j8 c8 s8 xk8 => ?_)
    refine Tm_suc (fun k => it_22 k _ _ _) ?_
    have g8 := go4.2.2 (by omega)
    rw [eas] at s8 nm2 re2 bd2
    refine ih _ (zz.2.2.2.2.2 ++ acc) _ _ τ8 _ _ (tkN T n s.1) s.2.1 (w1 + cnt + 2) _ _ (it + 1) _ _ _ (es ++ seeE es1) cs' xm' _ (pl ++ [(w1 + cnt, w1, cnt)]) c8 (fun r => ?_) hE2 s8 (by rw [lpl]; exact fr2) ⟨fun z => absurd z (by rw [lpl]; omega), fun _ => ⟨?_, ?_, hfi2⟩⟩ nm2 re2 ⟨by rw [lpl]; exact BdX_g bd2 (by omega) go4.2.1 (Nat.le_refl _) (Nat.le_refl _) (by omega), by omega⟩ (fun i hi => ?_) ple2 ek2 (by rw [lfull, lpl]; omega) (by omega) (by rw [lpl]; omega) (by omega) ?_ ?_ rfl ?_
    · obtain ⟨r', e1', e2', e3', e4'⟩ := hK (r.1, r.2.1, 0, r.2.2.2.1, r.2.2.2.2.1, r.2.2.2.2.2 ++ zz.2.2.2.2.2)
      exact ⟨r', e1', e2', e3', by rw [e4', List.append_assoc]⟩
    · show L7.1 3 = _
      rw [k1 3 (by decide), ← hfx]; exact h3
    · show L7.1 4 = _
      rw [k1 4 (by decide)]; exact h4
    · rw [xk8.2.2.2.2.2.2.1 (mk + i) (by omega)]; exact mkC i hi
    · show L7.1 1 = _
      exact g1'
    · show L7.1 2 = _
      rw [k1 2 (by decide)]; exact h2
    · show L7.1 6 + 1 = _
      rw [k1 6 (by decide)]
      show L5.1 6 + 1 = _
      rw [h6, n_add1]
  · rw [if_neg k12] at y6
    obtain ⟨r', e1', e2', e3', e4'⟩ := hK (s.1, s.2.1, 0, (if i1 = 0 then s.2.2.2.2.1.1 else i1), (if i1 = 0 then bNode s.2.2.2.2.1 30 (if zz.2.2.1 = 0 then 0 else 1) (nI zz.2.2.2.1) (nI s.2.2.2.1) else bSet (bNode s.2.2.2.2.1 30 (if zz.2.2.1 = 0 then 0 else 1) (nI zz.2.2.2.1) (nI s.2.2.2.1)) 9 e1 (nI s.2.2.2.2.1.1)), zz.2.2.2.2.2)
    have hx : x = some r' := by
      have y7 : K (s.1, s.2.1, 0, (if i1 = 0 then s.2.2.2.2.1.1 else i1), (if i1 = 0 then bNode s.2.2.2.2.1 30 (if zz.2.2.1 = 0 then 0 else 1) (nI zz.2.2.2.1) (nI s.2.2.2.1) else bSet (bNode s.2.2.2.2.1 30 (if zz.2.2.1 = 0 then 0 else 1) (nI zz.2.2.2.1) (nI s.2.2.2.1)) 9 e1 (nI s.2.2.2.2.1.1)), zz.2.2.2.2.2) = some x := y6
      rw [e1'] at y7
      exact (Option.some.inj y7).symm
    refine Tm_no (fun z => k12 ((lx_k (kk := 12) sc'.1.1 (by decide)).1 z)) ?_
    refine Tm_suc (fun k => it_20 k _ _ _) ?_
    refine Tm_suc (fun k => it_21 k _ _ _) ?_
    refine Tm_yes rfl ?_
    refine Tm_suc (fun k => it_22 k _ _ _) ?_
    refine Tm_suc (fun k => it_1 k _ _ _) ?_
    refine Tm_no (by show ¬ nI 32768 < L7.1 6 + 1; rw [k1 6 (by decide)]; show ¬ nI 32768 < L5.1 6 + 1; rw [h6, n_add1, n_lt (by decide) (by omega)]; omega) ?_
    refine Tm_yes rfl ?_
    refine Tm_suc (fun k => it_2 k _ _ _) ?_
    have e31 : L7.1 3 = nI (N + fx) := by rw [k1 3 (by decide)]; exact h3
    have e41 : L7.1 4 = nI (N + (cs.length + 2 + l4.length + 1)) := by rw [k1 4 (by decide)]; exact h4
    have fc := fP_c b 3
    have zfc := sc'.2.2
    have s9 : Zy T n b u al σ tb.length sz mk (a5 + n7 + j1 + j3 + j5) (a6 + n8 + j2 + j4 + j6) (tb ++ es ++ seeE es1) o s.1 s.2.1 (mk + 3 * (pl ++ [(w1 + cnt, w1, cnt)]).length) (w1 + cnt + 2) st lo qh sz cs' (uI (uI τc 4014 (L7.1 3)) 4015 (L7.1 4)) := Zy_g sc' (fun j hj => by rw [uI_o (by omega), uI_o (by omega)]) rfl (by rw [uI_o (by decide), uI_o (by decide)]; exact sc'.1.1.2.2.1.1) (Nat.le_refl _) sc'.1.2.2.2.2.2 (ZF_e zfc (fun j hj => by rw [uI_o (by omega), uI_o (by omega)]) rfl rfl)
    rw [hx]
    rw [eas] at s9 nm2 bd2
    have ev9 : EvX (seeN E r'.2.2.2.2.2) b u al gl (VmX Vm xm') (tb ++ (es ++ seeE es1)) (uI (uI τc 4014 (L7.1 3)) 4015 (L7.1 4)) := by
      refine EvX_e (evm _ _ _ _ nm2 hE2.2.2 s9.1.2.1) hE2.1.symm ?_ hE2.2.2.symm
      rw [hE2.2.1, e4']
      rfl
    have sN2 : sz + cs'.length = N + 2 + cs'.length := by rw [eN]
    refine Tm_some (Zfin s9 ⟨es ++ seeE es1, cs', w1 + cnt + 2, _, _, xm', _, pl ++ [(w1 + cnt, w1, cnt)], ⟨by rw [e2', e3', ← sN2]; exact s9.1.1, by rw [← eN]; exact s9.2.1, s9.2.2⟩, by rw [lpl]; exact fr2, ⟨by rw [lpl]; omega, by rw [lpl, e3']; show v + (pl.length + 1) ≤ s.2.1; omega, hfi2⟩, ⟨?_, ?_⟩, ev9, ⟨by rw [e2', e3', lpl, ← sN2]; exact bd2, by rw [e3']; show w1 + cnt + 2 ≤ 3 * s.2.1; omega⟩, mkC, ple2, ek2, ?_, ?_⟩)
    · rw [uI_o (by decide), uI_s, ← hfx]; exact e31
    · rw [uI_s]; exact e41
    · rw [e2', lfull, lpl]
      show 2 * (cs.length + l4.length + 3 + ins.length) + 6 * (pl.length + 1) ≤ 5 * (s.1 - q)
      omega
    · rw [e2']; show q < s.1; omega
end CYE
