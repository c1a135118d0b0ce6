/-! The class: iters of fors, what is wanted. -/
section CYD
variable {σ σ' σ0 τ τ' τ0 : CS} {L : LV} {b : Bool} {T : Nat → Int32} {n q q' u al o v mk mk' p sz sz' szB szE nc nc0 sz0 mk0 a1 a2 m kk f e s0 ow a t0 g D w st w' st' M nm deep vv np lp N Bd nb k d P h st0 b0 it q0 v0 r0 c : Nat} {y qh qh' y0 y1 wd x0 x1 x3 : Int32} {l l' cs cs' cs2 ll lt lt0 co bo : List Int32} {tb tb' es : List Ent} {ns : List Nm} {E : En} {gl : Nat × (Nat → Nat → Prop)} {Vm Vm' : Nat → Prop} {Pc : Nat → Nat → Prop} {MD : Nat → Nat → Nat} {md : Nat → Nat} {bt : BT} {ks qs qs' qa qb js qsI : List Nat} {lo lo' : Option Nat} {s : SB} {α : Type} {S : α → Int32 → CS → Prop} {x : Option α} {C : Prop} {hd : Bool}
/-- the names of an iter are to be seen -/
theorem zt_see {x : Option α} {R4 : Nat → Int32} {e : Nat} (es : List Ent) (hl : (tb ++ es).length ≤ 256) (cont : ∀ (L' : LV) (τ' : CS), (∀ j, ¬ j = 13 → L'.1 j = L.1 j) → L'.2 = L.2 → Zy T n b u al σ0 nc0 sz0 mk0 a1 a2 (tb ++ seeE es) o q v mk w st lo qh szB cs τ' → τ'.2.2.1 41 = R4 → Tm (fun k => f_F2 k (e + 1) 5 18 L' τ') (ZPo b u nc0 sz0 mk0 x S σ0 a1 a2)) (hnc : nc0 ≤ tb.length) : ∀ (d i : Nat) (L' : LV) (τ : CS), i + d = es.length → L'.1 13 = nI (tb.length + i) → (∀ j, ¬ j = 13 → L'.1 j = L.1 j) → L'.2 = L.2 → Zy T n b u al σ0 nc0 sz0 mk0 a1 a2 (tb ++ (seeE (es.take i) ++ es.drop i)) o q v mk w st lo qh szB cs τ → τ.2.2.1 41 = R4 → Tm (fun k => f_F2 k (e + 1) 5 17 L' τ) (ZPo b u nc0 sz0 mk0 x S σ0 a1 a2) := by
  intro d
  rw [List.length_append] at hl
  have lg : ∀ i, i ≤ es.length → (tb ++ (seeE (es.take i) ++ es.drop i)).length = tb.length + es.length := fun i hi => by
    rw [List.length_append, List.length_append, seeE_l, List.length_take, List.length_drop]
    omega
  induction d with
  | zero =>
    intro i L' τ hi l13 lj lL s1 r4
    have e11 := s1.1.1.2.2.2.1.1
    rw [lg i (by omega)] at e11
    refine Tm_suc (fun k => it_17 k _ _ _) ?_
    refine Tm_oP (Zy_pp s1) ?_
    rw [e11, l13]
    refine Tm_yes (by rw [n_le (by omega) (by omega)]; omega) ?_
    have ei : i = es.length := by omega
    rw [ei, List.take_length, List.drop_length, List.append_nil] at s1
    exact cont L' τ lj lL s1 r4
  | succ d ih =>
    intro i L' τ hi l13 lj lL s1 r4
    have e11 := s1.1.1.2.2.2.1.1
    rw [lg i (by omega)] at e11
    refine Tm_suc (fun k => it_17 k _ _ _) ?_
    refine Tm_oP (Zy_pp s1) ?_
    rw [e11, l13]
    refine Tm_no (by rw [n_le (by omega) (by omega)]; omega) ?_
    refine Tm_oP (Zy_pp s1) ?_
    refine Tm_chk (u_in (by rw [u_n (by omega)]; omega) (by decide)) ?_
    rw [n_cl (p := tb.length + i) (by omega), show vp_nar .boolean 0 = (0 : Int32) from rfl]
    have ho := TbQ_hd (nc := tb.length) (e1 := es.getD i e0E) (hd := false) s1.1.1.2.2.2.1 (i := tb.length + i) (by rw [lg i (by omega)]; omega) (by omega) (see_gd tb es i (by omega))
    rw [see_set tb es i (by omega)] at ho
    have s2 := Zy_tb s1 ho hnc (by rw [lg (i + 1) (by omega)]; omega)
    refine ih (i + 1) _ _ (by omega) ?_ ?_ ?_ s2 ?_
    · show nI (tb.length + i) + 1 = _
      rw [n_add1]; rfl
    · intro j hj
      show upd L'.1 13 _ j = _
      rw [upd_other hj]
      exact lj j hj
    · exact lL
    · show (uA τ (pR10 b) (tb.length + i) 0).2.2.1 41 = R4
      rw [uA_k (by have := pR_c b; omega)]; exact r4
/-- an exp of an iter -/
theorem zt_exp4 {f e : Nat} {f' : Nat → RS → Option RS} {bt : BT} {z : Option RT} (h : Zy T n b u al σ0 nc0 sz0 mk0 a1 a2 tb o q v mk w st lo qh szB cs τ) (ev : EvX E b u al gl Vm tb τ) (bd : BdX n o q v mk 0 (szB + cs.length) tb.length) (h1 : L.1 1 = nI 4) (hd : 6 * (20 - o) + 8 ≤ e) (hG : G T n f 6 E o q v 0 0 0 0 bt = some z) (hx : (z = none ∧ x = none) ∨ ∃ s, z = some s ∧ C) (cont : ∀ (τ' : CS) (ret : Int32) (n1 n2 : Nat) (r : RT) (ll : List Int32), z = some r → C → Zy T n b u al σ0 nc0 sz0 mk0 (a1 + n1) (a2 + n2) tb o r.1 r.2.1 mk w st lo qh szB (cs ++ ll) τ' → XK b u tb.length (szB + cs.length) mk τ τ' → Sgm u 0 gl Vm 1 ll → 2 * ll.length ≤ 3 * (r.1 - q) + 1 → q < r.1 → v ≤ r.2.1 → Tm (fun k => f' k ((0, ret), τ', (n1, n2))) (ZPo b u nc0 sz0 mk0 x S σ0 (a1 + n1) (a2 + n2))) : Tm (fun k => ox (f_F2 k e 1 0 L τ) (f' k)) (ZPo b u nc0 sz0 mk0 x S σ0 a1 a2) := by
  refine zt_call (C := C) h (px_all f e 6 4 (Or.inr ⟨rfl, rfl⟩) E o q v bt z hG gl Vm tb mk 0 (szB + cs.length) τ L h.1.1 ev bd h1 hd) ?_
  rcases hx with ⟨w1, w2⟩ | ⟨s, w1, c⟩
  · exact Or.inl ⟨w1, w2⟩
  · refine Or.inr ⟨s, w1, c, fun τ' ret n1 n2 hr xk hc => ?_⟩
    obtain ⟨ll, r1, r2, r3, r4, r5, r6, r7⟩ := hr
    exact cont τ' ret n1 n2 s ll w1 c (Zy_cl h r1 xk hc r2 h.1.2.2.2.1 h.1.2.2.2.2.2) xk r3 r4 r5 r6
/-- marks that hold within a for -/
def VmX (Vm : Nat → Prop) (xm : List Nat) (i : Nat) : Prop := Vm i ∨ (i ∈ xm ∧ 500000 ≤ i ∧ ∀ s, i = 500000 + s → ¬ s ∈ xm)
theorem VmX_mo {xm : List Nat} {Wc cnt i : Nat} (kx : ∀ i, i ∈ xm → i < bsl ∧ w ≤ i % 500000 ∧ i % 500000 < Wc) (hq : Wc + cnt + 2 ≤ 200) (h : VmX Vm xm i) : VmX Vm (vmL Wc cnt ++ (Wc + cnt) :: xm) i := by
  have bs : bsl = 1000000 := rfl
  rcases h with z | ⟨z1, z2, z3⟩
  · exact Or.inl z
  · have k := kx i z1
    refine Or.inr ⟨List.mem_append_right _ (List.mem_cons_of_mem _ z1), z2, fun s e m => ?_⟩
    rcases List.mem_append.1 m with y | y
    · rw [vmL_m] at y; omega
    · rcases List.mem_cons.1 y with t | t
      · omega
      · exact z3 s e t
theorem VmX_nw {xm : List Nat} {Wc cnt j : Nat} (kx : ∀ i, i ∈ xm → i < bsl ∧ w ≤ i % 500000 ∧ i % 500000 < Wc) (hq : Wc + cnt + 2 ≤ 200) (h : j < cnt) : VmX Vm (vmL Wc cnt ++ (Wc + cnt) :: xm) (500000 + (Wc + j)) := by
  refine Or.inr ⟨List.mem_append_left _ ((vmL_m cnt _).2 ⟨by omega, by omega⟩), by omega, fun s e m => ?_⟩
  rcases List.mem_append.1 m with y | y
  · rw [vmL_m] at y; omega
  · rcases List.mem_cons.1 y with t | t
    · omega
    · have k := kx s t; omega
/-- marks for the FOR_CLEARs -/
def mkF3 : List (Nat × Nat × Nat) → List Int32
  | [] => []
  | e :: l => nI e.1 :: nI e.2.1 :: nI e.2.2 :: mkF3 l
theorem mkF3_l : ∀ l : List (Nat × Nat × Nat), (mkF3 l).length = 3 * l.length
  | [] => rfl
  | e :: l => by
    show (mkF3 l).length + 1 + 1 + 1 = 3 * (l.length + 1)
    rw [mkF3_l l]; omega
theorem mkF3_a : ∀ (l : List (Nat × Nat × Nat)) (e : Nat × Nat × Nat), mkF3 (l ++ [e]) = mkF3 l ++ [nI e.1, nI e.2.1, nI e.2.2]
  | [], _ => rfl
  | a :: l, e => by
    show nI a.1 :: nI a.2.1 :: nI a.2.2 :: mkF3 (l ++ [e]) = _
    rw [mkF3_a l e]; rfl
/-- behind the iters of a for -/
def FtR (T : Nat → Int32) (n : Nat) (b : Bool) (u al : Nat) (gl : Nat × (Nat → Nat → Prop)) (Pc : Nat → Nat → Prop) (Vm : Nat → Prop) (tb : List Ent) (o mk N w st : Nat) (lo : Option Nat) (qh : Int32) (pre : List Int32) (q v : Nat) (E : En) (r : RT) (τ : CS) : Prop := ∃ (es : List Ent) (cs : List Int32) (w2 fi la : Nat) (xm lm : List Nat) (pl : List (Nat × Nat × Nat)), (QS T n b u al (tb ++ es) o r.1 r.2.1 (mk + 3 * pl.length) 0 (N + 2 + cs.length) τ ∧ (∀ i, i < cs.length → cdr b τ (N + 2 + i) = cs.getD i 0) ∧ ZF b u w2 st lo qh τ) ∧ FRw u gl Pc Vm w N w2 pl.length fi la xm lm (pre ++ cs) ∧ (1 ≤ pl.length ∧ v + pl.length ≤ r.2.1 ∧ 2 ≤ fi) ∧ (τ.1 4014 = nI (N + fi) ∧ τ.1 4015 = nI (N + la)) ∧ EvX (seeN E r.2.2.2.2.2) b u al gl (VmX Vm xm) (tb ++ es) τ ∧ (BdX n o r.1 r.2.1 (mk + 3 * pl.length) 0 (N + 2 + cs.length) (tb ++ es).length ∧ w2 ≤ 3 * r.2.1) ∧ (∀ i, i < 3 * pl.length → τ.2.2.1 41 (mk + i) = (mkF3 pl).getD i 0) ∧ (∀ e, e ∈ pl → (w ≤ e.1 ∧ e.1 + 1 < w2) ∧ w ≤ e.2.1 ∧ e.2.1 + e.2.2 ≤ w2) ∧ (∀ i, i < es.length → (es.getD i e0E).2.1 = 0) ∧ 2 * cs.length + 6 * pl.length ≤ 5 * (r.1 - q) ∧ q < r.1
end CYD
