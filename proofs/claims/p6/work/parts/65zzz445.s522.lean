/-! The class: fors are read; blocks of any kind are read. -/
section CYL
variable {σ σ' σ0 τ τ' τ0 : CS} {L : LV} {b : Bool} {T : Nat → Int32} {n q q' u al o v mk mk' p sz sz' szB szE nc nc0 sz0 mk0 a1 a2 m kk f e s0 ow a t0 g D w st w' st' M nm deep vv np lp N Bd nb k d P h st0 b0 it q0 v0 r0 c : Nat} {y qh qh' y0 y1 wd x0 x1 x3 : Int32} {l l' cs cs' cs2 ll lt lt0 co bo : List Int32} {tb tb' es : List Ent} {ns : List Nm} {E : En} {gl : Nat × (Nat → Nat → Prop)} {Vm Vm' : Nat → Prop} {Pc : Nat → Nat → Prop} {MD : Nat → Nat → Nat} {md : Nat → Nat} {bt : BT} {ks qs qs' qa qb js qsI : List Nat} {lo lo' : Option Nat} {s : SB} {α : Type} {S : α → Int32 → CS → Prop} {x : Option α} {C : Prop} 
/-- a for -/
theorem c_for (hpb : ∀ g, g ≤ f → PBk T n b u al MD g) : PSk T n b u al MD (f + 1) 5 1 := by
  intro E lp o q v pe i l bt s y hq hv hs hB1 ho h25 hG
  have pb := hpb f (Nat.le_refl _)
  have hG' : hT T n q (fun q1 => lb (G T n f 17 E (o + 1) q1 v 0 0 E.2.2.1.length 1 (bNode bt 48 0 (-1) 0)) (fun r => hb (if tkK T n r.1 = 15 then hT T n r.1 (fun q2 => lb (G T n f 0 (seeN E r.2.2.2.2.2) (o + 1) q2 r.2.1 0 0 0 0 (bSet r.2.2.2.2.1 5 bt.1 (nI r.2.2.2.1))) (fun t => some (some (t.1, t.2.1, 0, 0, bSet t.2.2.2.2.1 6 bt.1 (nI t.2.2.2.1), s)))) else some (some (r.1, r.2.1, 0, 0, bSet r.2.2.2.2.1 5 bt.1 (nI r.2.2.2.1), s))) (fun c => hW T n 44 c.1 (fun q3 => hb (GS T n MD f 0 (seeN E r.2.2.2.2.2) (lp + 1) (o + 1) q3 c.2.1 (nI bt.1) 0 0 c.2.2.2.2.1 s) (fun t => hE T n t.1 (fun q4 => some (some (q4, t.2.1, 0, bt.1, bSet t.2.2.2.2.1 7 bt.1 (hd t.2.2.2.1), t.2.2.2.2.2)))))))) = some y := hG
  have tb1 := tkN_b T n q hq
  have g1 := tb1.2.2.2 h25
  rcases hT_any hG' with ⟨w1, w2⟩ | ⟨w1, w2⟩
  · refine ⟨none, Or.inl ⟨rfl, w2⟩, fun d gl Pc Vm tb mk N w lo qh σ L h zf hbg cx bd hd l1 => ?_⟩
    have s0 := Zy_N h zf hbg
    have u41 := cx.2.2.1
    have i42 : ¬ (nI u < 0 ∨ 42 ≤ (nI u).toNatClampNeg) := u_in (by rw [u_n (by omega)]; omega) (by decide)
    have e03 : σ.1 4003 = nI u := h.2.2.2.2.1.2.1
    refine Tm_suc (fun k => fr1_0 k _ _ _) ?_
    refine Tm_oP (Zy_pp s0) (Tm_oP (Zy_pp s0) ?_)
    refine Tm_chk (by rw [e03]; exact i42) ?_
    exact zt_opens (C := False) s0 (Or.inl ⟨fun z => z.2 w1, rfl⟩) (fun _ _ _ _ c _ _ => c.elim)
  have dd : ∀ {tb : List Ent} {mk sz : Nat} {σ : CS} {d : Nat}, QS T n b u al tb o q v mk 0 sz σ → 4 * (20 - o) ≤ d + 1 → ∃ d1, d = d1 + 2 ∧ 4 * (20 - (o + 1)) + 1 ≤ d1 ∧ o < 20 := by
    intro tb mk sz σ d h hd
    have o20 := h.2.2.2.2.2.1.2
    exact ⟨d - 2, by omega, by omega, by omega⟩
  rcases lb_any w2 with ⟨w3, w4⟩ | ⟨r, w3, w4⟩
  · refine ⟨none, Or.inl ⟨rfl, w4⟩, fun d gl Pc Vm tb mk N w lo qh σ L h zf hbg cx bd hd l1 => ?_⟩
    exact c_for0 w3 w1 ho h zf hbg cx bd h25 (fun _ => rfl) (fun r z => by cases z)
  have hr1 : (tkN T n q ≤ r.1 ∧ r.1 ≤ n) ∧ (v ≤ r.2.1 ∧ r.2.1 ≤ 60) ∧ bt.1 ≤ r.2.2.2.2.1.1 := by
    obtain ⟨x1, a9⟩ := g_mono T n f 17 _ _ _ _ _ _ _ _ _ r tb1.2.1 hv w3 1 (by rw [bNode_1]; omega) (Nat.le_refl _) (Or.inl rfl)
    obtain ⟨a1, a2, a3, a4, a5, _⟩ := x1
    rw [bNode_1] at a5
    exact ⟨⟨a1, a2⟩, ⟨a3, by omega⟩, by omega⟩
  by_cases k15 : tkK T n r.1 = 15
  case neg =>
    rw [if_neg k15] at w4
    obtain ⟨z, sz, run⟩ := c_forT (T := T) (n := n) (b := b) (u := u) (al := al) (MD := MD) (f := f) (o := o) (E := E) (ns := r.2.2.2.2.2) (lp := lp) (s := s) (cq := r.1) (cv := r.2.1) (b0 := bt.1) (bc := bSet r.2.2.2.2.1 5 bt.1 (nI r.2.2.2.1)) (nd := fun _ => bt.1) (bb := fun t => bSet t.2.2.2.2.1 7 bt.1 (hd t.2.2.2.1)) pb hr1.1.2 hr1.2.1.2 hs (by show 1 ≤ r.2.2.2.2.1.1; omega) w4
    refine ⟨z, sz, fun d gl Pc Vm tb mk N w lo qh σ L h zf hbg cx bd hd l1 => ?_⟩
    obtain ⟨d1, ed, hd1, ho1⟩ := dd h hd
    subst ed
    refine c_for0 w3 w1 ho h zf hbg cx bd h25 (fun e => by cases e) (fun r' er τ LF n1 n2 fs e15 => ?_)
    cases er
    have kv : ∃ tb' mk' sz, QS T n b u al tb' (o + 1) r.1 r.2.1 mk' 0 sz τ := by
      obtain ⟨es, cs, csR, w2', fi, la, xm, lm, pl, s1, _⟩ := fs
      exact ⟨_, _, _, s1.1.1⟩
    obtain ⟨tb', mk', sz', kv⟩ := kv
    unfold foC
    refine Tm_no (fun e => k15 ((lx_k (kk := 15) kv (by decide)).1 e)) ?_
    exact run d1 gl Pc Vm tb mk N w q v n1 n2 lo qh σ τ LF cx bd hd1 ho1 fs
  rw [if_pos k15] at w4
  have tb2 := tkN_b T n r.1 hr1.1.2
  by_cases w5 : tkK T n (tkN T n r.1) = 0
  · rw [hT_n w5] at w4
    refine ⟨none, Or.inl ⟨rfl, (Option.some.inj w4).symm⟩, fun d gl Pc Vm tb mk N w lo qh σ L h zf hbg cx bd hd l1 => ?_⟩
    obtain ⟨d1, ed, hd1, ho1⟩ := dd h hd
    refine c_for0 w3 w1 ho h zf hbg cx bd h25 (fun e => by cases e) (fun r' er τ LF n1 n2 fs e15 => ?_)
    cases er
    exact c_forC (f := 0) (x2 := none) (bt' := bt) cx bd ho1 fs e15 k15 (fun _ => rfl) (fun z => absurd w5 z) (fun _ => rfl) (fun z => absurd w5 z)
  rw [hT_y w5] at w4
  obtain ⟨x2, hx2⟩ := gb_ex w4
  rw [hx2] at w4
  cases x2 with
  | none =>
    refine ⟨none, Or.inl ⟨rfl, (Option.some.inj w4).symm⟩, fun d gl Pc Vm tb mk N w lo qh σ L h zf hbg cx bd hd l1 => ?_⟩
    obtain ⟨d1, ed, hd1, ho1⟩ := dd h hd
    refine c_for0 w3 w1 ho h zf hbg cx bd h25 (fun e => by cases e) (fun r' er τ LF n1 n2 fs e15 => ?_)
    cases er
    exact c_forC cx bd ho1 fs e15 k15 (fun _ => rfl) (fun _ => hx2) (fun _ => rfl) (fun _ t e => by cases e)
  | some t =>
    have b1 : 1 ≤ (bSet r.2.2.2.2.1 5 bt.1 (nI r.2.2.2.1)).1 := by show 1 ≤ r.2.2.2.2.1.1; omega
    have mo := g_mo0 (bt := bSet r.2.2.2.2.1 5 bt.1 (nI r.2.2.2.1)) tb2.2.1 hr1.2.1.2 b1 hx2
    obtain ⟨z, sz, run⟩ := c_forT (T := T) (n := n) (b := b) (u := u) (al := al) (MD := MD) (f := f) (o := o) (E := E) (ns := r.2.2.2.2.2) (lp := lp) (s := s) (cq := t.1) (cv := t.2.1) (b0 := bt.1) (bc := bSet t.2.2.2.2.1 6 bt.1 (nI t.2.2.2.1)) (nd := fun _ => bt.1) (bb := fun t => bSet t.2.2.2.2.1 7 bt.1 (hd t.2.2.2.1)) pb mo.1.2 mo.2.1.2 hs (by show 1 ≤ t.2.2.2.2.1.1; omega) w4
    refine ⟨z, sz, fun d gl Pc Vm tb mk N w lo qh σ L h zf hbg cx bd hd l1 => ?_⟩
    obtain ⟨d1, ed, hd1, ho1⟩ := dd h hd
    subst ed
    refine c_for0 w3 w1 ho h zf hbg cx bd h25 (fun e => by cases e) (fun r' er τ LF n1 n2 fs e15 => ?_)
    cases er
    refine c_forC cx bd ho1 fs e15 k15 (fun e => absurd e w5) (fun _ => hx2) (fun e => by cases e) (fun _ t' et τ' m1 m2 fs' => ?_)
    cases et
    exact run d1 gl Pc Vm tb mk N w q v m1 m2 lo qh σ τ' LF cx bd hd1 ho1 fs'
/-- BLOCKS OF ANY KIND ARE READ -/
theorem PBk_all : ∀ f, PBk T n b u al MD f := blk_all (fun f h => c_for h)
end CYL
