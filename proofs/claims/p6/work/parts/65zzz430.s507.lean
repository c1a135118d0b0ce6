/-! The class: ifs are read whole. -/
section CXW
variable {σ σ' σ0 τ τ' τ0 : CS} {L : LV} {b : Bool} {T : Nat → Int32} {n q q' u al o v mk mk' p sz sz' szB szE nc nc0 sz0 mk0 a1 a2 m kk f e s0 ow a t0 g D w st w' st' M nm deep vv np lp N Bd ns nb k d P h st0 b0 it : Nat} {y qh qh' y0 y1 wd x0 x1 x3 : Int32} {l l' cs cs' cs2 ll lt lt0 co bo : List Int32} {tb : List Ent} {E : En} {gl : Nat × (Nat → Nat → Prop)} {Vm : Nat → Prop} {Pc : Nat → Nat → Prop} {MD : Nat → Nat → Nat} {md : Nat → Nat} {bt : BT} {ks qs qs' qa qb js es qsI : List Nat} {lo lo' : Option Nat} {s : SB}
/-- behind a branch there is no elseif -/
theorem c_if3n {r : Nat × Nat × Nat} {zF : Option (Nat × Nat × Nat)} (ic : IfC T n E b u al gl Vm Pc MD tb lp lo o mk w N q v d σ) (hi : IfSt T n b u al gl Pc Vm σ a1 a2 tb o mk w lo qh N q v st0 (some h) r L τ) (l3 : L.1 3 = nI it) (hit : it < r.1) (k41 : ¬ tkK T n r.1 = 41) (t4 : Tm (fun k => f_F3 k (d + 1) 2 4 L τ) (ZPo b u tb.length N mk zF (fun r _ τ => S1W T n b u al gl Pc Vm tb o mk N q v w st0 lo qh (bdO o v) r τ) σ a1 a2)) : Tm (fun k => f_F3 k (d + 1) 2 3 L τ) (ZPo b u tb.length N mk zF (fun r _ τ => S1W T n b u al gl Pc Vm tb o mk N q v w st0 lo qh (bdO o v) r τ) σ a1 a2) := by
  have kv : ∃ sz, QS T n b u al tb (o + 1) r.1 r.2.1 mk 0 sz τ := by
    obtain ⟨cs, js, es, ns, s1, _⟩ := hi
    exact ⟨_, s1.1.1⟩
  obtain ⟨sz, kv⟩ := kv
  have n10 := ic.1.1.2.2.2.2
  have go := tk_go kv
  refine Tm_suc (fun k => fi_3 k _ _ _) ?_
  refine Tm_no (fun z => by rw [l3] at z; exact absurd ((n_lt (p := 32768) (q := it) (by decide) (by omega)).1 z) (by omega)) ?_
  exact Tm_no (fun z => k41 ((lx_k (kk := 41) kv (by decide)).1 z)) t4
theorem c_if4n {r : Nat × Nat × Nat} (ic : IfC T n E b u al gl Vm Pc MD tb lp lo o mk w N q v d σ) (hi : IfSt T n b u al gl Pc Vm σ a1 a2 tb o mk w lo qh N q v st0 (some h) r L τ) (k42 : ¬ tkK T n r.1 = 42) : Tm (fun k => f_F3 k (d + 1) 2 4 L τ) (ZPo b u tb.length N mk (lbZ T n (some r)) (fun r _ τ => S1W T n b u al gl Pc Vm tb o mk N q v w st0 lo qh (bdO o v) r τ) σ a1 a2) := by
  have kv : ∃ sz, QS T n b u al tb (o + 1) r.1 r.2.1 mk 0 sz τ := by
    obtain ⟨cs, js, es, ns, s1, _⟩ := hi
    exact ⟨_, s1.1.1⟩
  obtain ⟨sz, kv⟩ := kv
  refine Tm_suc (fun k => fi_4 k _ _ _) ?_
  refine Tm_no (fun z => k42 ((lx_k (kk := 42) kv (by decide)).1 z)) ?_
  exact c_ifEnd hi ic.1.1.2.2.2.2 ic.2.1.1 ic.2.2.2
theorem c_ifB (f : Nat) : (∀ g, g ≤ f → PBk T n b u al MD g) → PI3 T n b u al MD f := by
  induction f using Nat.strongRecOn with
  | ind f ih =>
  intro hpb fK E lp o b0 i cq cv bc b3 s y pbK hq hv hs hB1 hb3 hG
  by_cases k40 : tkK T n cq = 40 ∧ ¬ tkK T n (tkN T n cq) = 0
  case neg =>
    refine ⟨none, Or.inl ⟨rfl, ?_⟩, fun d gl Pc Vm tb mk N w q v st0 a1 a2 it lo qh x1 σ τ L ic ip hit => ?_⟩
    · rcases hb_any hG with ⟨_, e2⟩ | ⟨s1, e1, _⟩
      · exact e2
      · have z := hW_s e1
        exact absurd ⟨z.1, z.2.1⟩ k40
    · obtain ⟨cs, qh0, es, n0, s1, _⟩ := ip
      unfold ifT
      exact zt_expect (kk := 40) (C := False) s1 (by decide) rfl (Or.inl ⟨k40, rfl⟩) (fun _ _ _ _ c _ _ => c.elim)
  have tb1 := tkN_b T n cq hq
  have g1 := tb1.2.2.2 (by omega)
  have hG1 : hb (hb (GS T n MD f 0 E lp (o + 1) (tkN T n cq) cv (nI i) 0 0 bc s) (fun t => if tkK T n t.1 = 41 then hT T n t.1 (fun q3 => GS T n MD f 3 E lp (o + 1) q3 t.2.1 0 i t.2.2.2.2.1.1 (b3 t) t.2.2.2.2.2) else some (some (t.1, t.2.1, 0, t.2.2.2.2.1.1, b3 t, t.2.2.2.2.2)))) (KIf T n MD fK E lp o b0) = some y := by
    unfold hW hT at hG
    rw [if_pos k40.1, if_neg k40.2] at hG
    exact hG
  have gz : ∃ x, GS T n MD f 0 E lp (o + 1) (tkN T n cq) cv (nI i) 0 0 bc s = some x := by
    rcases hb_any hG1 with ⟨y1, _⟩ | ⟨_, y1, _⟩
    · rcases hb_any y1 with ⟨y2, _⟩ | ⟨_, y2, _⟩
      · exact ⟨_, y2⟩
      · exact ⟨_, y2⟩
    · rcases hb_any y1 with ⟨y2, _⟩ | ⟨_, y2, _⟩
      · exact ⟨_, y2⟩
      · exact ⟨_, y2⟩
  obtain ⟨x, hx⟩ := gz
  rw [hx] at hG1
  obtain ⟨z1, bz, run⟩ := hpb f (Nat.le_refl _) E lp (o + 1) (tkN T n cq) cv (nI i) 0 0 _ _ x tb1.2.1 hv hs hB1 hx
  rcases bz with ⟨e1, e2⟩ | ⟨r, e1, e2⟩
  · rw [e2] at hG1
    refine ⟨none, Or.inl ⟨rfl, (Option.some.inj hG1).symm⟩, fun d gl Pc Vm tb mk N w q v st0 a1 a2 it lo qh x1 σ τ L ic ip hit => ?_⟩
    exact c_ifBr (z1 := z1) ic ip k40 (fun mk N w lo qh σ h1 h2 h3 h4 => run d gl Pc Vm tb mk N w lo qh σ lZ h1 h2 h3 h4 ic.2.2.1) (fun _ => rfl) (fun r z => by rw [e1] at z; cases z)
  rcases e2 with ⟨e2, e3⟩ | ⟨t, e2, e4, e5, e6⟩
  · rw [e2] at hG1
    have en : lbZ T n (some r) = none := if_neg (fun z => e3 (by omega))
    refine ⟨none, Or.inl ⟨rfl, (Option.some.inj hG1).symm⟩, fun d gl Pc Vm tb mk N w q v st0 a1 a2 it lo qh x1 σ τ L ic ip hit => ?_⟩
    refine c_ifBr (z1 := z1) ic ip k40 (fun mk N w lo qh σ h1 h2 h3 h4 => run d gl Pc Vm tb mk N w lo qh σ lZ h1 h2 h3 h4 ic.2.2.1) (fun _ => rfl) (fun r' z τ' L' n1 n2 h hi l3 hc => ?_)
    rw [e1] at z; cases z
    refine c_if3n ic hi l3 (by omega) (fun z => e3 (by omega)) ?_
    have k := c_if4n ic hi (fun z => e3 (by omega))
    rw [en] at k
    exact k
  rw [e2] at hx hG1
  have mo := (gs_mo f 0 E lp (o + 1) (tkN T n cq) cv (nI i) 0 0 bc s t 1 (by decide) tb1.2.1 hv hs hx (Nat.le_refl _) hB1 (fun _ z => absurd rfl z) (fun z => absurd z (by decide))).1
  obtain ⟨a1, a2, a3, a4, a5, a6, a7, a8, a9, a10⟩ := mo
  have er : r = (t.1, t.2.1, t.2.2.2.2.2.1) := by rw [e4, e5, e6]
  have hG2 : hb (if tkK T n t.1 = 41 then hT T n t.1 (fun q3 => GS T n MD f 3 E lp (o + 1) q3 t.2.1 0 i t.2.2.2.2.1.1 (b3 t) t.2.2.2.2.2) else some (some (t.1, t.2.1, 0, t.2.2.2.2.1.1, b3 t, t.2.2.2.2.2))) (KIf T n MD fK E lp o b0) = some y := hG1
  by_cases k41 : tkK T n t.1 = 41
  case neg =>
    rw [if_neg k41] at hG2
    have hG3 : KIf T n MD fK E lp o b0 (t.1, t.2.1, 0, t.2.2.2.2.1.1, b3 t, t.2.2.2.2.2) = some y := hG2
    obtain ⟨z, sz, rn⟩ := c_ifElse (r := (t.1, t.2.1, 0, t.2.2.2.2.1.1, b3 t, t.2.2.2.2.2)) pbK a2 a4 a10 (hb3 t) hG3
    refine ⟨z, sz, fun d gl Pc Vm tb mk N w q v st0 a1 a2 it lo qh x1 σ τ L ic ip hit => ?_⟩
    refine c_ifBr (z1 := z1) ic ip k40 (fun mk N w lo qh σ h1 h2 h3 h4 => run d gl Pc Vm tb mk N w lo qh σ lZ h1 h2 h3 h4 ic.2.2.1) (fun z => by rw [e1] at z; cases z) (fun r' z τ' L' n1 n2 h hi l3 hc => ?_)
    rw [e1] at z; cases z
    rw [er] at hi hc
    exact c_if3n ic hi l3 (by omega) k41 (rn d gl Pc Vm tb mk N w q v st0 h n1 n2 lo qh σ τ' L' ic hi)
  rw [if_pos k41] at hG2
  have k41' : tkK T n r.1 = 41 := by rw [← e4]; exact k41
  by_cases w1 : tkK T n (tkN T n t.1) = 0
  · rw [hT_n w1] at hG2
    have w1' : tkK T n (tkN T n r.1) = 0 := by rw [← e4]; exact w1
    refine ⟨none, Or.inl ⟨rfl, (Option.some.inj hG2).symm⟩, fun d gl Pc Vm tb mk N w q v st0 a1 a2 it lo qh x1 σ τ L ic ip hit => ?_⟩
    refine c_ifBr (z1 := z1) ic ip k40 (fun mk N w lo qh σ h1 h2 h3 h4 => run d gl Pc Vm tb mk N w lo qh σ lZ h1 h2 h3 h4 ic.2.2.1) (fun _ => rfl) (fun r' z τ' L' n1 n2 h hi l3 hc => ?_)
    rw [e1] at z; cases z
    exact c_ifEx (f := 0) (bt := bc) (y0 := none) ic hi l3 (by omega) k41' (fun _ => rfl) (fun z => absurd w1' z) (fun _ => rfl) (fun z => absurd w1' z)
  rw [hT_y w1] at hG2
  have tb2 := tkN_b T n t.1 a2
  cases f with
  | zero => simp only [GS] at hG2; cases hG2
  | succ g =>
    have hG3 : hb (hb (if t.2.2.2.2.1.1 = 0 ∧ tkK T n (tkN T n t.1) = 63 then hT T n (tkN T n t.1) (fun q1 => some (some (q1, t.2.1, 0, 0, b3 t, t.2.2.2.2.2))) else lb (G T n g 0 E (o + 1) (tkN T n t.1) t.2.1 0 0 0 0 (b3 t)) (fun r => some (some (r.1, r.2.1, 0, r.2.2.2.1, r.2.2.2.2.1, t.2.2.2.2.2)))) (fun c => hW T n 40 c.1 (fun q2 => hb (GS T n MD g 0 E lp (o + 1) q2 c.2.1 (nI i) 0 0 c.2.2.2.2.1 t.2.2.2.2.2) (fun t' => if tkK T n t'.1 = 41 then hT T n t'.1 (fun q3 => GS T n MD g 3 E lp (o + 1) q3 t'.2.1 0 i t'.2.2.2.2.1.1 ((fun t' : ST => if t.2.2.2.2.1.1 = 0 then bSet (bNode t'.2.2.2.2.1 33 (if c.2.2.2.1 = 0 then -3 else nI c.2.2.2.1) (hd t'.2.2.2.1) 0) 5 i (nI t'.2.2.2.2.1.1) else bSet (bNode t'.2.2.2.2.1 33 (if c.2.2.2.1 = 0 then -3 else nI c.2.2.2.1) (hd t'.2.2.2.1) 0) 9 t.2.2.2.2.1.1 (nI t'.2.2.2.2.1.1)) t') t'.2.2.2.2.2) else some (some (t'.1, t'.2.1, 0, t'.2.2.2.2.1.1, ((fun t' : ST => if t.2.2.2.2.1.1 = 0 then bSet (bNode t'.2.2.2.2.1 33 (if c.2.2.2.1 = 0 then -3 else nI c.2.2.2.1) (hd t'.2.2.2.1) 0) 5 i (nI t'.2.2.2.2.1.1) else bSet (bNode t'.2.2.2.2.1 33 (if c.2.2.2.1 = 0 then -3 else nI c.2.2.2.1) (hd t'.2.2.2.1) 0) 9 t.2.2.2.2.1.1 (nI t'.2.2.2.2.1.1)) t'), t'.2.2.2.2.2)))))) (KIf T n MD fK E lp o b0) = some y := hG2
    rw [if_neg (by omega)] at hG3
    have gz : ∃ x, G T n g 0 E (o + 1) (tkN T n t.1) t.2.1 0 0 0 0 (b3 t) = some x := by
      rcases hb_any hG3 with ⟨y1, _⟩ | ⟨_, y1, _⟩
      · rcases hb_any y1 with ⟨y2, _⟩ | ⟨_, y2, _⟩
        · rcases lb_any y2 with ⟨y3, _⟩ | ⟨_, y3, _⟩
          · exact ⟨_, y3⟩
          · exact ⟨_, y3⟩
        · rcases lb_any y2 with ⟨y3, _⟩ | ⟨_, y3, _⟩
          · exact ⟨_, y3⟩
          · exact ⟨_, y3⟩
      · rcases hb_any y1 with ⟨y2, _⟩ | ⟨_, y2, _⟩
        · rcases lb_any y2 with ⟨y3, _⟩ | ⟨_, y3, _⟩
          · exact ⟨_, y3⟩
          · exact ⟨_, y3⟩
        · rcases lb_any y2 with ⟨y3, _⟩ | ⟨_, y3, _⟩
          · exact ⟨_, y3⟩
          · exact ⟨_, y3⟩
    obtain ⟨x2, hx2⟩ := gz
    rw [hx2] at hG3
    have hx2' : G T n g 0 E (o + 1) (tkN T n r.1) r.2.1 0 0 0 0 (b3 t) = some x2 := by rw [← e4, ← e5]; exact hx2
    cases x2 with
    | none =>
      refine ⟨none, Or.inl ⟨rfl, (Option.some.inj hG3).symm⟩, fun d gl Pc Vm tb mk N w q v st0 a1 a2 it lo qh x1 σ τ L ic ip hit => ?_⟩
      refine c_ifBr (z1 := z1) ic ip k40 (fun mk N w lo qh σ h1 h2 h3 h4 => run d gl Pc Vm tb mk N w lo qh σ lZ h1 h2 h3 h4 ic.2.2.1) (fun _ => rfl) (fun r' z τ' L' n1 n2 h hi l3 hc => ?_)
      rw [e1] at z; cases z
      exact c_ifEx ic hi l3 (by omega) k41' (fun _ => rfl) (fun _ => hx2') (fun _ => rfl) (fun _ c z => by cases z)
    | some c =>
      have moc := g_mo0 (bt := b3 t) tb2.2.1 a4 (hb3 t) hx2
      obtain ⟨z, sz, rn⟩ := ih g (by omega) (fun g' hg' => hpb g' (by omega)) fK E lp o b0 i c.1 c.2.1 c.2.2.2.2.1 _ t.2.2.2.2.2 y pbK moc.1.2 moc.2.1.2 a10 (by have := hb3 t; omega) (fun t' => by split <;> exact Nat.le_add_left 1 _) hG3
      refine ⟨z, sz, fun d gl Pc Vm tb mk N w q v st0 a1 a2 it lo qh x1 σ τ L ic ip hit => ?_⟩
      refine c_ifBr (z1 := z1) ic ip k40 (fun mk N w lo qh σ h1 h2 h3 h4 => run d gl Pc Vm tb mk N w lo qh σ lZ h1 h2 h3 h4 ic.2.2.1) (fun z => by rw [e1] at z; cases z) (fun r' z τ' L' n1 n2 h hi l3 hc => ?_)
      rw [e1] at z; cases z
      refine c_ifEx ic hi l3 (by omega) k41' (fun z => absurd (by rw [e4]; exact z) w1) (fun _ => hx2') (fun z => by cases z) (fun _ c' ec τ2 m1 m2 x1' ip' hi' => ?_)
      cases ec
      rw [← e6] at ip'
      exact rn d gl Pc Vm tb mk N w q v st0 m1 m2 (it + 1) lo qh x1' σ τ2 L' ic ip' hi'
/-- an if -/
theorem c_if (hpb : ∀ g, g ≤ f → PBk T n b u al MD g) : PSk T n b u al MD (f + 1) 2 2 := by
  intro E lp o q v pe i l bt s y hq hv hs hB1 ho h25 hG
  have hG' : hT T n q (fun q1 => hb (GS T n MD f 3 E lp (o + 1) q1 v 0 bt.1 0 (bNode bt 46 (-1) 0 0) s) (KIf T n MD f E lp o bt.1)) = some y := hG
  have tb1 := tkN_b T n q hq
  have g1 := tb1.2.2.2 h25
  rcases hT_any hG' with ⟨w1, w2⟩ | ⟨w1, w2⟩
  · refine ⟨none, Or.inl ⟨rfl, w2⟩, fun d gl Pc Vm tb mk N w lo qh σ L h zf hbg cx bd hd l1 => ?_⟩
    have s0 := Zy_N h zf hbg
    refine Tm_suc (fun k => fi_0 k _ _ _) ?_
    exact zt_opens (C := False) s0 (Or.inl ⟨fun z => z.2 w1, rfl⟩) (fun _ _ _ _ c _ _ => c.elim)
  have hq1 : tkN T n q < 2147483648 ∨ True := Or.inr trivial
  cases f with
  | zero => simp only [GS] at w2; cases w2
  | succ g =>
    have pbK := hpb (g + 1) (Nat.le_refl _)
    have pbg := c_ifB (T := T) (n := n) (b := b) (u := u) (al := al) (MD := MD) g (fun g' hg' => hpb g' (by omega))
    have hG3 : hb (hb (if 0 = 0 ∧ tkK T n (tkN T n q) = 63 then hT T n (tkN T n q) (fun q1 => some (some (q1, v, 0, 0, bNode bt 46 (-1) 0 0, s))) else lb (G T n g 0 E (o + 1) (tkN T n q) v 0 0 0 0 (bNode bt 46 (-1) 0 0)) (fun r => some (some (r.1, r.2.1, 0, r.2.2.2.1, r.2.2.2.2.1, s)))) (fun c => hW T n 40 c.1 (fun q2 => hb (GS T n MD g 0 E lp (o + 1) q2 c.2.1 (nI bt.1) 0 0 c.2.2.2.2.1 s) (fun t' => if tkK T n t'.1 = 41 then hT T n t'.1 (fun q3 => GS T n MD g 3 E lp (o + 1) q3 t'.2.1 0 bt.1 t'.2.2.2.2.1.1 ((fun t' : ST => bSet (bNode t'.2.2.2.2.1 33 (if c.2.2.2.1 = 0 then -3 else nI c.2.2.2.1) (hd t'.2.2.2.1) 0) 5 bt.1 (nI t'.2.2.2.2.1.1)) t') t'.2.2.2.2.2) else some (some (t'.1, t'.2.1, 0, t'.2.2.2.2.1.1, ((fun t' : ST => bSet (bNode t'.2.2.2.2.1 33 (if c.2.2.2.1 = 0 then -3 else nI c.2.2.2.1) (hd t'.2.2.2.1) 0) 5 bt.1 (nI t'.2.2.2.2.1.1)) t'), t'.2.2.2.2.2)))))) (KIf T n MD (g + 1) E lp o bt.1) = some y := w2
    have b1 : 1 ≤ (bNode bt 46 (-1) 0 0).1 := Nat.le_add_left 1 _
    -- the way up to the then
    have opn : ∀ (d : Nat) (gl : Nat × (Nat → Nat → Prop)) (Pc : Nat → Nat → Prop) (Vm : Nat → Prop) (tb : List Ent) (mk N w : Nat) (lo : Option Nat) (qh : Int32) (σ : CS) (L : LV) (zF : Option (Nat × Nat × Nat)), QS T n b u al tb o q v mk 0 (N + 1) σ → ZF b u w s.1 lo qh σ → cdr b σ N = em 0 (nI q) → (∀ (τ : CS) (n1 n2 : Nat), Zy T n b u al σ tb.length N mk n1 n2 tb (o + 1) (tkN T n q) v mk w s.1 lo qh N [em 0 (nI q)] τ → Tm (fun k => if τ.1 3702 = 63 then (ox (f_X2_advance k 0 lZ τ) (fun r3 => oP (sPp r3.2.1) (fun b4 => ox (f_X7_emit__P k 0 (lI (lI (lB lZ 0 b4) 1 21) 2 0) r3.2.1) (fun r5 => f_F3 k d 2 2 L r5.2.1)))) else (f_F3 k d 2 1 L τ)) (ZPo b u tb.length N mk zF (fun r _ τ => S1W T n b u al gl Pc Vm tb o mk N q v w s.1 lo qh (bdO o v) r τ) σ n1 n2)) → Tm (fun k => f_F3 k d 2 0 L σ) (ZPo b u tb.length N mk zF (fun r _ τ => S1W T n b u al gl Pc Vm tb o mk N q v w s.1 lo qh (bdO o v) r τ) σ 0 0) := by
      intro d gl Pc Vm tb mk N w lo qh σ L zF h zf hbg cont
      have s0 := Zy_N h zf hbg
      refine Tm_suc (fun k => fi_0 k _ _ _) ?_
      refine zt_opens (C := True) s0 (Or.inr ⟨⟨ho, w1⟩, trivial⟩) (fun τ1 ret1 n1 n2 _ s1 xk1 => ?_)
      have k := cont τ1 _ _ s1
      exact k
    have icf : ∀ (d : Nat) (gl : Nat × (Nat → Nat → Prop)) (Pc : Nat → Nat → Prop) (Vm : Nat → Prop) (tb : List Ent) (mk N w : Nat) (lo : Option Nat) (σ : CS), QS T n b u al tb o q v mk 0 (N + 1) σ → CxS n E b u al gl Vm Pc MD tb lp lo σ → BdB n o q v mk N w tb.length → 4 * (20 - o) ≤ d + 1 → ∃ d1, d = d1 + 1 ∧ IfC T n E b u al gl Vm Pc MD tb lp lo o mk w N q v d1 σ := fun d gl Pc Vm tb mk N w lo σ h cx bd hd => by
      have o20 := h.2.2.2.2.2.1.2
      exact ⟨d - 1, by omega, cx, bd, by omega, by omega⟩
    have ip0 : ∀ (gl : Nat × (Nat → Nat → Prop)) (Pc : Nat → Nat → Prop) (Vm : Nat → Prop) (tb : List Ent) (mk N w : Nat) (lo : Option Nat) (qh : Int32) (σ τ : CS) (n1 n2 cq cv : Nat) (co : List Int32), q < 8388608 → Zy T n b u al σ tb.length N mk n1 n2 tb (o + 1) cq cv mk w s.1 lo qh N ([em 0 (nI q)] ++ co) τ → Sst u gl Pc Vm [] 0 0 1 co → 2 * co.length ≤ 3 * (cq - tkN T n q) + 1 → tkN T n q < cq → v ≤ cv → IfP T n b u al gl Pc Vm σ n1 n2 tb o mk w lo qh N q v s.1 cq cv s.1 0 τ := fun gl Pc Vm tb mk N w lo qh σ τ n1 n2 cq cv co hq8 s1 sst ln lt lv => by
      have lco : ([em 0 (nI q)] ++ co).length = co.length + 1 := by rw [List.length_append]; show 1 + co.length = _; omega
      refine ⟨_, qh, [], 1, s1, fun bo qb nb st jt jl => ?_, ⟨by rw [lco]; omega, by omega, Nat.zero_le _⟩, ⟨by omega, lv⟩, rfl⟩
      rw [lco] at st jt ⊢
      have z := IfX_0 (q := q) sst st jt jl hq8
      rw [Nat.add_comm 1 nb]
      exact ⟨_, z.1, z.2⟩
    have i63 : ∀ {tb : List Ent} {mk sz : Nat} {τ : CS}, QS T n b u al tb (o + 1) (tkN T n q) v mk 0 sz τ → (τ.1 3702 = 63 ↔ tkK T n (tkN T n q) = 63) := fun h => lx_k (kk := 63) h (by decide)
    by_cases k63 : tkK T n (tkN T n q) = 63
    · rw [if_pos ⟨rfl, k63⟩] at hG3
      by_cases w3 : tkK T n (tkN T n (tkN T n q)) = 0
      · rw [hT_n w3] at hG3
        refine ⟨none, Or.inl ⟨rfl, (Option.some.inj hG3).symm⟩, fun d gl Pc Vm tb mk N w lo qh σ L h zf hbg cx bd hd l1 => opn d gl Pc Vm tb mk N w lo qh σ L none h zf hbg (fun τ n1 n2 s1 => ?_)⟩
        refine Tm_yes ((i63 s1.1.1).2 k63) ?_
        exact zt_adv (C := False) s1 (Or.inl ⟨w3, rfl⟩) (fun _ _ _ _ c _ _ => c.elim)
      rw [hT_y w3] at hG3
      have tb2 := tkN_b T n (tkN T n q) tb1.2.1
      have g2 := tb2.2.2.2 (by omega)
      obtain ⟨z, sz, rn⟩ := pbg (g + 1) E lp o bt.1 bt.1 (tkN T n (tkN T n q)) v (bNode bt 46 (-1) 0 0) _ s y pbK tb2.2.1 hv hs b1 (fun t' => Nat.le_add_left 1 _) hG3
      refine ⟨z, sz, fun d gl Pc Vm tb mk N w lo qh σ L h zf hbg cx bd hd l1 => opn d gl Pc Vm tb mk N w lo qh σ L z h zf hbg (fun τ n1 n2 s1 => ?_)⟩
      obtain ⟨d1, ed, ic⟩ := icf d gl Pc Vm tb mk N w lo σ h cx bd hd
      have n10 := cx.1.2.2.2.2
      have bd1 := bd.1
      refine Tm_yes ((i63 s1.1.1).2 k63) ?_
      refine zt_adv (C := True) s1 (Or.inr ⟨w3, trivial⟩) (fun τ2 ret2 n3 n4 _ s2 xk2 => ?_)
      refine Tm_oP (Zy_pp s2) ?_
      refine zt_emit (op := 21) s2 rfl rfl (by show N + 1 + 1 ≤ 36864; omega) (fun τ3 n5 n6 s3 xk3 => ?_)
      subst ed
      refine Tm_suc (fun k => fi_2 k _ _ _) ?_
      exact rn d1 gl Pc Vm tb mk N w q v s.1 _ _ 0 lo qh 0 σ τ3 L ic (ip0 gl Pc Vm tb mk N w lo qh σ τ3 _ _ _ _ [em 21 0] (by omega) s3 (Sst_i Is_po (Nat.le_refl _) (Nat.le_refl _)) (by show 2 * 1 ≤ _; omega) (by omega) (Nat.le_refl _)) (Nat.zero_le _)
    · rw [if_neg (fun z => k63 z.2)] at hG3
      have gz : ∃ x, G T n g 0 E (o + 1) (tkN T n q) v 0 0 0 0 (bNode bt 46 (-1) 0 0) = some x := by
        rcases hb_any hG3 with ⟨y1, _⟩ | ⟨_, y1, _⟩
        · rcases hb_any y1 with ⟨y2, _⟩ | ⟨_, y2, _⟩
          · rcases lb_any y2 with ⟨y3, _⟩ | ⟨_, y3, _⟩
            · exact ⟨_, y3⟩
            · exact ⟨_, y3⟩
          · rcases lb_any y2 with ⟨y3, _⟩ | ⟨_, y3, _⟩
            · exact ⟨_, y3⟩
            · exact ⟨_, y3⟩
        · rcases hb_any y1 with ⟨y2, _⟩ | ⟨_, y2, _⟩
          · rcases lb_any y2 with ⟨y3, _⟩ | ⟨_, y3, _⟩
            · exact ⟨_, y3⟩
            · exact ⟨_, y3⟩
          · rcases lb_any y2 with ⟨y3, _⟩ | ⟨_, y3, _⟩
            · exact ⟨_, y3⟩
            · exact ⟨_, y3⟩
      obtain ⟨x2, hx2⟩ := gz
      rw [hx2] at hG3
      cases x2 with
      | none =>
        refine ⟨none, Or.inl ⟨rfl, (Option.some.inj hG3).symm⟩, fun d gl Pc Vm tb mk N w lo qh σ L h zf hbg cx bd hd l1 => opn d gl Pc Vm tb mk N w lo qh σ L none h zf hbg (fun τ n1 n2 s1 => ?_)⟩
        obtain ⟨bd1, bd2, bd3, bd4⟩ := bd
        have bdx : BdX n (o + 1) (tkN T n q) v mk 0 (N + [em 0 (nI q)].length) tb.length := ⟨cx.1.2.2.2.2, by show 2 * (N + 1) + _ + _ ≤ _; omega, by omega, bd3, by omega⟩
        refine Tm_no (fun z => k63 ((i63 s1.1.1).1 z)) ?_
        refine Tm_suc (fun k => fi_1 k _ _ _) ?_
        exact zt_exp (C := True) s1 (EvX_z cx.1.1 s1.1.2.1) bdx rfl hx2 (Or.inl ⟨rfl, rfl⟩) (fun _ _ _ _ _ _ z => by cases z)
      | some c =>
        have moc := g_mo0 (bt := bNode bt 46 (-1) 0 0) tb1.2.1 hv b1 hx2
        obtain ⟨z, sz, rn⟩ := pbg (g + 1) E lp o bt.1 bt.1 c.1 c.2.1 c.2.2.2.2.1 _ s y pbK moc.1.2 moc.2.1.2 hs (by omega) (fun t' => Nat.le_add_left 1 _) hG3
        refine ⟨z, sz, fun d gl Pc Vm tb mk N w lo qh σ L h zf hbg cx bd hd l1 => opn d gl Pc Vm tb mk N w lo qh σ L z h zf hbg (fun τ n1 n2 s1 => ?_)⟩
        obtain ⟨d1, ed, ic⟩ := icf d gl Pc Vm tb mk N w lo σ h cx bd hd
        obtain ⟨bd1, bd2, bd3, bd4⟩ := bd
        have n10 := cx.1.2.2.2.2
        have bdx : BdX n (o + 1) (tkN T n q) v mk 0 (N + [em 0 (nI q)].length) tb.length := ⟨n10, by show 2 * (N + 1) + _ + _ ≤ _; omega, by omega, bd3, by omega⟩
        refine Tm_no (fun z => k63 ((i63 s1.1.1).1 z)) ?_
        refine Tm_suc (fun k => fi_1 k _ _ _) ?_
        refine zt_exp (C := True) s1 (EvX_z cx.1.1 s1.1.2.1) bdx rfl hx2 (Or.inr ⟨c, rfl, trivial⟩) (fun τ2 ret2 n3 n4 r' co hzz _ s2 xk2 sg ln lt lv tg => ?_)
        cases hzz
        subst ed
        refine Tm_suc (fun k => fi_2 k _ _ _) ?_
        exact rn d1 gl Pc Vm tb mk N w q v s.1 _ _ 0 lo qh 0 σ τ2 L ic (ip0 gl Pc Vm tb mk N w lo qh σ τ2 _ _ _ _ co (by omega) s2 (Sst_sg sg 0) ln lt lv) (Nat.zero_le _)
end CXW
