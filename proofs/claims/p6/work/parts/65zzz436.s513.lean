/-! The class: names of a for's iter, one or many. -/
section CYC
variable {σ σ' σ0 τ τ' τ0 : CS} {L : LV} {b : Bool} {T : Nat → Int32} {n q q' u al o v mk mk' p sz sz' szB szE nc nc0 sz0 mk0 a1 a2 m kk f e s0 ow a t0 g D w st w' st' M nm deep vv np lp N Bd nb k d P h st0 b0 it q0 v0 r0 c : Nat} {y qh qh' y0 y1 wd x0 x1 x3 : Int32} {l l' cs cs' cs2 ll lt lt0 co bo : List Int32} {tb tb' es : List Ent} {ns : List Nm} {E : En} {gl : Nat × (Nat → Nat → Prop)} {Vm Vm' : Nat → Prop} {Pc : Nat → Nat → Prop} {MD : Nat → Nat → Nat} {md : Nat → Nat} {bt : BT} {ks qs qs' qa qb js qsI : List Nat} {lo lo' : Option Nat} {s : SB} {α : Type} {S : α → Int32 → CS → Prop} {x : Option α} {C : Prop} {hd : Bool}
/-- names told, here and there -/
def NsF (u p : Nat) (hd : Bool) (es : List Ent) (ns : List Nm) : Prop := (∀ i, i < es.length → (es.getD i e0E).2 = (0, u, p + i, hd)) ∧ ∀ bs, (∃ nm, nm ∈ ns ∧ nm.1 = bs) ↔ ∃ i, i < es.length ∧ (es.getD i e0E).1 = bs
theorem NsF_nil (u p : Nat) (hd : Bool) : NsF u p hd [] [] := by
  refine ⟨fun i hi => absurd hi (Nat.not_lt_zero _), fun bs => ⟨fun z => ?_, fun z => ?_⟩⟩
  · obtain ⟨nm, z1, z2⟩ := z
    cases z1
  · obtain ⟨i, z1, z2⟩ := z
    exact absurd z1 (Nat.not_lt_zero _)
theorem NsF_ad {bs : List Int32} {pl sl : Nat} (h : NsF u p hd es ns) : NsF u p hd (es ++ [(bs, 0, u, p + es.length, hd)]) ((bs, pl, sl) :: ns) := by
  obtain ⟨h1, h2⟩ := h
  refine ⟨fun i hi => ?_, fun bs' => ?_⟩
  · rw [List.length_append] at hi
    have hi' : i < es.length + 1 := hi
    by_cases z : i = es.length
    · rw [z, gE_0]
    · rw [gE_l (by omega)]
      exact h1 i (by omega)
  · rw [List.length_append]
    constructor
    · rintro ⟨nm, m1, m2⟩
      rcases List.mem_cons.1 m1 with z | z
      · refine ⟨es.length, by show es.length < es.length + 1; omega, ?_⟩
        rw [gE_0, ← m2, z]
      · obtain ⟨i, i1, i2⟩ := (h2 bs').1 ⟨nm, z, m2⟩
        exact ⟨i, by show i < es.length + 1; omega, by rw [gE_l i1]; exact i2⟩
    · rintro ⟨i, i1, i2⟩
      have i1' : i < es.length + 1 := i1
      by_cases z : i = es.length
      · rw [z, gE_0] at i2
        exact ⟨_, List.mem_cons_self, i2⟩
      · rw [gE_l (by omega)] at i2
        obtain ⟨nm, m1, m2⟩ := (h2 bs').2 ⟨i, by omega, i2⟩
        exact ⟨nm, List.mem_cons_of_mem _ m1, m2⟩
theorem RwE_nf (h : RwE E c tb r0) (hr : r0 ≤ tb.length) (k : NsF u p hd es ns) : RwE (rowN E ns) c (tb ++ es) r0 := by
  obtain ⟨h1, h2⟩ := h
  have el : (rowN E ns).2.2.1 = ns ++ E.2.2.1 := rfl
  refine ⟨by rw [el, List.length_append]; omega, fun bs => ?_⟩
  have et : (rowN E ns).2.2.1.take ((rowN E ns).2.2.1.length - c) = ns ++ E.2.2.1.take (E.2.2.1.length - c) := by
    rw [el, List.length_append, show ns.length + E.2.2.1.length - c = ns.length + (E.2.2.1.length - c) by omega, List.take_length_add_append]
  rw [et, List.length_append]
  constructor
  · rintro ⟨nm, m1, m2⟩
    rcases List.mem_append.1 m1 with z | z
    · obtain ⟨i, i1, i2⟩ := (k.2 bs).1 ⟨nm, z, m2⟩
      exact ⟨tb.length + i, by omega, by omega, by rw [gE_r]; exact i2⟩
    · obtain ⟨j, j1, j2, j3⟩ := (h2 bs).1 ⟨nm, z, m2⟩
      exact ⟨j, j1, by omega, by rw [gE_l j2]; exact j3⟩
  · rintro ⟨j, j1, j2, j3⟩
    rcases Nat.lt_or_ge j tb.length with z | z
    · rw [gE_l z] at j3
      obtain ⟨nm, m1, m2⟩ := (h2 bs).2 ⟨j, j1, z, j3⟩
      exact ⟨nm, List.mem_append_right _ m1, m2⟩
    · have e1 : j = tb.length + (j - tb.length) := by omega
      rw [e1, gE_r] at j3
      obtain ⟨nm, m1, m2⟩ := (k.2 bs).2 ⟨j - tb.length, by omega, j3⟩
      exact ⟨nm, List.mem_append_left _ m1, m2⟩
theorem NmR_hf (h : NmR E u gl Vm tb) (k : NsF u p true es ns) : NmR (rowN E ns) u gl Vm (tb ++ es) := by
  refine ⟨h.1, fun bs ok => ⟨fun i lk => ?_, fun lk => ?_⟩⟩
  · obtain ⟨l1, l2, l3⟩ := lk
    rw [List.length_append] at l1 l3
    rcases Nat.lt_or_ge i tb.length with z | z
    · rw [gE_l z] at l2 ⊢
      refine (h.2 bs ok).1 i ⟨z, l2, fun j j1 j2 w => l3 j j1 (by omega) ?_⟩
      rw [gE_l j2]; exact w
    · exfalso
      have e1 : i = tb.length + (i - tb.length) := by omega
      rw [e1, gE_r] at l2
      have z2 := k.1 (i - tb.length) (by omega)
      rw [z2] at l2
      exact absurd (show true = false from l2.2) (by decide)
  · refine (h.2 bs ok).2 (fun j j1 w => lk j (by rw [List.length_append]; omega) ?_)
    rw [gE_l j1]; exact w
theorem NmR_sf (h : NmR E u gl Vm tb) (k : NsF u p false es ns) (hp : p + es.length ≤ 200) (hm : ∀ i, i < es.length → Vm' (500000 + (p + i))) (hV : ∀ i, Vm i → Vm' i) (hu : u < 42) : NmR (rowN (seeN E ns) ns) u gl Vm' (tb ++ es) := by
  refine ⟨h.1, fun bs ok => ⟨fun i lk => ?_, fun lk => ?_⟩⟩
  · obtain ⟨l1, l2, l3⟩ := lk
    rw [List.length_append] at l1 l3
    rcases Nat.lt_or_ge i tb.length with z | z
    · rw [gE_l z] at l2 ⊢
      have no : ¬ ∃ nm, nm ∈ ns ∧ nm.1 = bs := fun w => by
        obtain ⟨j, j1, j2⟩ := (k.2 bs).1 w
        refine l3 (tb.length + j) (by omega) (by omega) ?_
        rw [gE_r]
        refine ⟨j2, ?_⟩
        have z2 := k.1 j j1
        rw [z2]
      have lk2 : LkI tb bs i := ⟨z, l2, fun j j1 j2 w => l3 j j1 (by omega) (by rw [gE_l j2]; exact w)⟩
      exact EntR_m ((h.2 bs ok).1 i lk2) (fd_out no) rfl hV
    · have e1 : i = tb.length + (i - tb.length) := by omega
      have z2 := k.1 (i - tb.length) (by omega)
      rw [e1, gE_r] at l2 ⊢
      have fi : (fd (rowN (seeN E ns) ns) bs).1 = 1 := fd_in ((k.2 bs).2 ⟨i - tb.length, by omega, l2.1⟩)
      unfold EntR
      rw [z2]
      exact ⟨⟨Nat.zero_le 3, hu⟩, fun _ => ⟨fi, fun _ => ⟨by show p + (i - tb.length) < 200; omega, hm _ (by omega)⟩, fun z => absurd rfl z⟩, fun z => absurd (show 0 = 3 from z) (by decide), fun z => absurd (show 0 = 1 from z) (by decide), fun z => absurd (show 0 = 2 from z) (by decide)⟩
  · have no : ¬ ∃ nm, nm ∈ ns ∧ nm.1 = bs := fun w => by
      obtain ⟨j, j1, j2⟩ := (k.2 bs).1 w
      refine lk (tb.length + j) (by rw [List.length_append]; omega) ?_
      rw [gE_r]
      refine ⟨j2, ?_⟩
      have z2 := k.1 j j1
      rw [z2]
    show (fd (seeN E ns) bs).1 = 0
    rw [fd_out no]
    refine (h.2 bs ok).2 (fun j j1 w => lk j (by rw [List.length_append]; omega) ?_)
    rw [gE_l j1]; exact w
theorem NsF_see (k : NsF u p hd es ns) : NsF u p false (seeE es) ns := by
  refine ⟨fun i hi => ?_, fun bs => ?_⟩
  · rw [seeE_l] at hi
    rw [seeE_g hi, k.1 i hi]
  · rw [seeE_l]
    constructor
    · intro z
      obtain ⟨i, i1, i2⟩ := (k.2 bs).1 z
      exact ⟨i, i1, by rw [seeE_g i1]; exact i2⟩
    · rintro ⟨i, i1, i2⟩
      rw [seeE_g i1] at i2
      exact (k.2 bs).2 ⟨i, i1, i2⟩
/-- behind the names -/
def INF (T : Nat → Int32) (n : Nat) (b : Bool) (u al : Nat) (tb : List Ent) (o mk w sz q v st : Nat) (lo : Option Nat) (qh : Int32) (r : RT) (τ : CS) : Prop := ∃ es : List Ent, 1 ≤ es.length ∧ (QS T n b u al (tb ++ es) o r.1 r.2.1 mk 0 sz τ ∧ ZF b u (w + es.length) st lo qh τ) ∧ NsF u w true es r.2.2.2.2.2 ∧ r.2.1 = v + es.length ∧ q + 1 + 2 * r.2.2.1 ≤ r.1 ∧ ((r.2.2.1 = 0 ∧ es.length = 1 ∧ ¬ tkK T n q = 10) ∨ (r.2.2.1 = 1 ∧ tkK T n q = 10))
theorem c_iterNf {x : Option RT} (h : QS T n b u al tb o q v mk 0 sz σ) (zf : ZF b u w st lo qh σ) (hu : u < 42) (hl : tb.length + (60 - v) ≤ 256) (hp : w ≤ 180) (l1 : L.1 1 = nI r0) (hr : r0 ≤ tb.length) (l2 : (tkK T n q = 10 → L.1 2 = 1) ∧ (¬ tkK T n q = 10 → L.1 2 = 0)) (l3 : L.1 3 = 1) (rw0 : RwE E c tb r0) (hG : gIn T n f E o c g q v bt = some x) : Tm (fun k => f_X5_iterNames k 0 L σ) (ZPo b u tb.length sz mk x (fun r _ τ => INF T n b u al tb o mk w sz q v st lo qh r τ) σ 0 0) := by
  have s0 := Zy_0 h zf
  have go := tk_go h
  have v60 := s0.1.1.2.2.2.2.2.2.1.2
  have nil0 : NsF u w true [] [] := NsF_nil u w true
  unfold gIn at hG
  by_cases k10 : tkK T n q = 10
  · rw [if_pos k10] at hG
    have g1 := go.2.2 (by omega)
    have l2' := l2.1 k10
    -- from behind a name on
    have lp : ∀ (f1 : Nat) (K : RT → RG) (E1 : En) (e2 : Nat), ∀ (L' : LV) (τ : CS) (a1 a2 q1 v1 i1 e1 : Nat) (bt1 : BT) (es : List Ent) (ns : List Nm), gb (G T n f1 18 E1 (o + 1) q1 v1 i1 e1 c g bt1) K = some x → (∀ (q v : Nat) (bt : BT) (rs : List Nm), K (q, v, 0, 0, bt, rs) = gW T n 11 q (fun q3 => some (some (q3, v, 1, e2, bt, rs ++ ns)))) → L'.1 1 = nI r0 → L'.1 2 = 1 → L'.1 3 = 1 → 1 ≤ es.length → L'.1 5 = nI (es.length - 1) → Zy T n b u al σ tb.length sz mk a1 a2 (tb ++ es) (o + 1) q1 v1 mk (w + es.length) st lo qh sz [] τ → NsF u w true es ns → RwE E1 c (tb ++ es) r0 → v1 = v + es.length → q + 2 ≤ q1 → Tm (fun k => if L'.1 2 = 0 then f_X5_iterNames k 11 L' τ else if τ.1 3702 = 16 then f_X5_iterNames k 12 (lI L' 100 1) τ else f_X5_iterNames k 11 L' τ) (ZPo b u tb.length sz mk x (fun r _ τ => INF T n b u al tb o mk w sz q v st lo qh r τ) σ a1 a2) := by
      intro f1
      induction f1 with
      | zero =>
        intro K E1 e2 L' τ a1 a2 q1 v1 i1 e1 bt1 es ns hg
        exact absurd hg (by intro z; cases z)
      | succ f1 ih =>
        intro K E1 e2 L' τ a1 a2 q1 v1 i1 e1 bt1 es ns hg hK l1 l2 l3 le1 l5 s1 nr rw1 ev lq
        have go1 := tk_go s1.1.1
        have vv := s1.1.1.2.2.2.2.2.2.1.2
        have e18 : G T n (f1 + 1) 18 E1 (o + 1) q1 v1 i1 e1 c g bt1 = (if tkK T n q1 = 12 then gT T n q1 (fun q1 => gN T n E1 c g q1 v1 bt1 (fun q2 v2 e2 b2 nm => gb (G T n f1 18 (rowN E1 [nm]) (o + 1) q2 v2 0 e2 c g (bSet b2 9 e1 (nI e2))) (fun r => some (some (r.1, r.2.1, 0, 0, r.2.2.2.2.1, r.2.2.2.2.2 ++ [nm]))))) else some (some (q1, v1, 0, 0, bt1, []))) := rfl
        rw [e18] at hg
        have la : (tb ++ es).length = tb.length + es.length := List.length_append
        refine Tm_no (by rw [l2]; decide) ?_
        by_cases k12 : tkK T n q1 = 12
        · rw [if_pos k12, gb_gT] at hg
          simp only [gb_gN, gb_gb] at hg
          have g2 := go1.2.2 (by omega)
          refine Tm_yes ((lx_k (kk := 12) s1.1.1 (by decide)).2 k12) ?_
          refine Tm_suc (fun k => by rw [f_X5_iterNames]) ?_
          refine Tm_no (by show ¬ (1 : Int32) = 0; decide) ?_
          refine zt_adv s1 (gT_any hg) (fun τ2 ret2 j1 j2 c2 s2 xk2 => ?_)
          refine Tm_suc (fun k => by rw [f_X5_iterNames]) ?_
          have go2 := tk_go s2.1.1
          refine zt_name (r0 := r0) s2 hu (fun z => by rw [la]; omega) (by omega) l1 (by rw [la]; omega) l3 rfl ?_ (gN_a rw1 c2) (fun L3 τ3 m1 m2 c3 k26 y1 y2 y3 y5 s3 => ?_)
          · show uN (L'.1 5 + 1) ≤ 60
            rw [l5, n_add1, u_n (by omega)]
            omega
          · obtain ⟨e3, b3, pl, c3⟩ := c3
            have ea : tb ++ es ++ [(tkS T n (tkN T n q1), 0, u, w + es.length, true)] = tb ++ (es ++ [(tkS T n (tkN T n q1), 0, u, w + es.length, true)]) := List.append_assoc _ _ _
            have lb : (es ++ [(tkS T n (tkN T n q1), 0, u, w + es.length, true)]).length = es.length + 1 := List.length_append
            rw [ea] at s3
            have nr2 := NsF_ad (bs := tkS T n (tkN T n q1)) (pl := pl) (sl := v1) nr
            have rw2 : RwE (rowN E1 [(tkS T n (tkN T n q1), pl, v1)]) c (tb ++ (es ++ [(tkS T n (tkN T n q1), 0, u, w + es.length, true)])) r0 := by
              rw [← ea]
              have nr1 := NsF_ad (u := u) (p := w + es.length) (bs := tkS T n (tkN T n q1)) (pl := pl) (sl := v1) (hd := true) (es := []) (ns := []) (NsF_nil _ _ _)
              exact RwE_nf rw1 (by rw [la]; omega) nr1
            have g3 : tkN T n q1 < tkN T n (tkN T n q1) ∨ True := Or.inr trivial
            have nb := (tkN_b T n (tkN T n q1) go1.2.1).1
            refine ih (fun r => gb (some (some (r.1, r.2.1, 0, 0, r.2.2.2.2.1, r.2.2.2.2.2 ++ [(tkS T n (tkN T n q1), pl, v1)]))) K) (rowN E1 [(tkS T n (tkN T n q1), pl, v1)]) e2 L3 τ3 _ _ _ _ _ _ _ (es ++ [(tkS T n (tkN T n q1), 0, u, w + es.length, true)]) ((tkS T n (tkN T n q1), pl, v1) :: ns) c3 (fun q v bt rs => ?_) (by rw [y1]; exact l1) (by rw [y2]; exact l2) y3 (by rw [lb]; omega) ?_ (by rw [lb]; exact s3) nr2 rw2 (by rw [lb]; omega) (by omega)
            · show K (q, v, 0, 0, bt, rs ++ [(tkS T n (tkN T n q1), pl, v1)]) = _
              rw [hK]
              have e9 : rs ++ [(tkS T n (tkN T n q1), pl, v1)] ++ ns = rs ++ ((tkS T n (tkN T n q1), pl, v1) :: ns) := by rw [List.append_assoc]; rfl
              rw [e9]
            · rw [y5, lb]
              show L'.1 5 + 1 = _
              rw [l5, n_add1]
              exact congrArg nI (by omega)
        · rw [if_neg k12] at hg
          have hg2 : K (q1, v1, 0, 0, bt1, []) = some x := hg
          rw [hK] at hg2
          refine Tm_no (fun z => k12 ((lx_k (kk := 12) s1.1.1 (by decide)).1 z)) ?_
          refine Tm_suc (fun k => by rw [f_X5_iterNames]) ?_
          refine Tm_suc (fun k => by rw [f_X5_iterNames]) ?_
          refine Tm_yes (by show (0 : Int32) = 0; rfl) ?_
          refine Tm_suc (fun k => by rw [f_X5_iterNames]) ?_
          refine Tm_suc (fun k => by rw [f_X5_iterNames]) ?_
          refine Tm_no (by show ¬ (60 : Int32) < L'.1 5 + 1; rw [l5, n_add1]; show ¬ nI 60 < _; rw [n_lt (by decide) (by omega)]; omega) ?_
          refine Tm_yes rfl ?_
          refine Tm_suc (fun k => by rw [f_X5_iterNames]) ?_
          refine Tm_no (by show ¬ L'.1 2 = 0; rw [l2]; decide) ?_
          refine zt_closes (kk := 11) s1 (by decide) rfl (gW_a3 hg2) (fun τ3 ret3 m1 m2 c3 s3 xk3 => ?_)
          obtain ⟨k11, c3⟩ := c3
          have g3 := go1.2.2 (by omega)
          refine Tm_suc (fun k => by rw [f_X5_iterNames]) ?_
          rw [← Option.some.inj c3]
          refine Tm_some (Zfin s3 ⟨es, le1, ⟨s3.1.1, s3.2.2⟩, nr, ev, ?_, Or.inr ⟨rfl, k10⟩⟩)
          show q + 1 + 2 * 1 ≤ tkN T n q1
          omega
    refine Tm_suc (fun k => by rw [f_X5_iterNames]) ?_
    refine Tm_no (by rw [l2']; decide) ?_
    have hop : (¬ (¬ o = 20 ∧ ¬ tkK T n (tkN T n q) = 0) ∧ x = none) ∨ ((¬ o = 20 ∧ ¬ tkK T n (tkN T n q) = 0) ∧ gN T n E c g (tkN T n q) v bt (fun q2 v2 e2 b2 nm => gb (G T n f 18 (rowN E [nm]) (o + 1) q2 v2 0 e2 c g b2) (fun r => gW T n 11 r.1 (fun q3 => some (some (q3, r.2.1, 1, e2, r.2.2.2.2.1, r.2.2.2.2.2 ++ [nm]))))) = some x) := by
      rcases gO_any hG with ⟨w1, w2⟩ | ⟨w1, w2⟩
      · exact Or.inl ⟨fun z => z.1 w1, w2⟩
      · rcases gT_any w2 with ⟨w3, w4⟩ | ⟨w3, w4⟩
        · exact Or.inl ⟨fun z => z.2 w3, w4⟩
        · exact Or.inr ⟨⟨w1, w3⟩, w4⟩
    refine zt_opens s0 hop (fun τ1 ret n1 n2 c1 s1 xk1 => ?_)
    refine Tm_suc (fun k => by rw [f_X5_iterNames]) ?_
    have go1 := tk_go s1.1.1
    refine zt_name (r0 := r0) s1 hu (fun z => by omega) (by omega) l1 hr l3 rfl (by show uN 0 ≤ 60; decide) (gN_a rw0 c1) (fun L3 τ3 m1 m2 c3 k26 y1 y2 y3 y5 s3 => ?_)
    obtain ⟨e3, b3, pl, c3⟩ := c3
    have nr1 := NsF_ad (u := u) (p := w) (bs := tkS T n (tkN T n q)) (pl := pl) (sl := v) (hd := true) nil0
    have g3 := go1.2.2 (by omega)
    exact lp f (fun r => gW T n 11 r.1 (fun q3 => some (some (q3, r.2.1, 1, e3, r.2.2.2.2.1, r.2.2.2.2.2 ++ [(tkS T n (tkN T n q), pl, v)])))) (rowN E [(tkS T n (tkN T n q), pl, v)]) e3 L3 τ3 _ _ _ _ _ _ _ [(tkS T n (tkN T n q), 0, u, w, true)] [(tkS T n (tkN T n q), pl, v)] c3 (fun _ _ _ _ => rfl) (by rw [y1]; exact l1) (by rw [y2]; exact l2') y3 (Nat.le_refl _) (by rw [y5]; rfl) s3 nr1 (RwE_nf rw0 hr nr1) rfl (by omega)
  · rw [if_neg k10] at hG
    have l2' := l2.2 k10
    refine Tm_suc (fun k => by rw [f_X5_iterNames]) ?_
    refine Tm_yes l2' ?_
    refine Tm_suc (fun k => by rw [f_X5_iterNames]) ?_
    refine zt_name (r0 := r0) s0 hu (fun z => by omega) (by omega) l1 hr l3 rfl (by show uN 0 ≤ 60; decide) (gN_a rw0 hG) (fun L3 τ3 m1 m2 c3 k26 y1 y2 y3 y5 s3 => ?_)
    obtain ⟨e3, b3, pl, c3⟩ := c3
    have nr1 := NsF_ad (u := u) (p := w) (bs := tkS T n q) (pl := pl) (sl := v) (hd := true) nil0
    have g3 := go.2.2 (by omega)
    refine Tm_yes (by rw [y2]; exact l2') ?_
    refine Tm_suc (fun k => by rw [f_X5_iterNames]) ?_
    refine Tm_suc (fun k => by rw [f_X5_iterNames]) ?_
    refine Tm_yes rfl ?_
    refine Tm_suc (fun k => by rw [f_X5_iterNames]) ?_
    refine Tm_suc (fun k => by rw [f_X5_iterNames]) ?_
    refine Tm_no (by show ¬ (60 : Int32) < L3.1 5 + 1; rw [y5]; show ¬ (60 : Int32) < 0 + 1; decide) ?_
    refine Tm_yes rfl ?_
    refine Tm_suc (fun k => by rw [f_X5_iterNames]) ?_
    refine Tm_yes (by show L3.1 2 = 0; rw [y2]; exact l2') ?_
    refine Tm_suc (fun k => by rw [f_X5_iterNames]) ?_
    rw [← Option.some.inj c3]
    refine Tm_some (Zfin s3 ⟨[(tkS T n q, 0, u, w, true)], Nat.le_refl _, ⟨s3.1.1, s3.2.2⟩, nr1, rfl, ?_, Or.inl ⟨rfl, rfl, k10⟩⟩)
    show q + 1 + 2 * 0 ≤ tkN T n q
    omega
theorem zt_store {k0 c0 : Nat} {f' : Nat → RS → Option RS} (h : Zy T n b u al σ0 nc0 sz0 mk0 a1 a2 tb o q v mk w st lo qh szB cs τ) (h1 : L.1 1 = nI k0) (h2 : L.1 2 = nI c0) (h3 : L.1 3 = 1) (hc : c0 < 1000) (hm : szB + cs.length + 2 ≤ 36864) (cont : ∀ (τ' : CS) (ret : Int32) (m1 m2 : Nat), Zy T n b u al σ0 nc0 sz0 mk0 (a1 + m1) (a2 + m2) tb o q v mk w st lo qh szB (cs ++ (if c0 = 0 then [em 71 (nI k0)] else [em 72 (nI k0), nI c0])) τ' → XK b u tb.length (szB + cs.length) mk τ τ' → Tm (fun k => f' k ((0, ret), τ', (m1, m2))) (ZPo b u nc0 sz0 mk0 x S σ0 (a1 + m1) (a2 + m2))) : Tm (fun k => ox (f_X5_iterStore k 0 L τ) (f' k)) (ZPo b u nc0 sz0 mk0 x S σ0 a1 a2) := by
  have s0 := Sy_0 h.1.1
  have l30 : ¬ L.1 3 = 0 := by rw [h3]; decide
  have t : Tm (fun k => f_X5_iterStore k 0 L τ) (QPo b u tb.length (szB + cs.length) mk (some ()) (fun _ _ τ' => QS T n b u al tb o q v mk 0 (szB + cs.length + (if c0 = 0 then [em 71 (nI k0)] else [em 72 (nI k0), nI c0]).length) τ' ∧ ∀ i, i < (if c0 = 0 then [em 71 (nI k0)] else [em 72 (nI k0), nI c0]).length → cdr b τ' (szB + cs.length + i) = (if c0 = 0 then [em 71 (nI k0)] else [em 72 (nI k0), nI c0]).getD i 0) τ 0 0) := by
    refine Tm_suc (fun k => by rw [f_X5_iterStore]) ?_
    rw [h2]
    by_cases z : c0 = 0
    · rw [if_pos z]
      refine Tm_yes (by rw [z]; rfl) ?_
      refine Tm_oP (Sy_pp s0) ?_
      refine Tm_no l30 ?_
      refine Tm_suc (fun k => by rw [f_X5_iterStore]) ?_
      refine st_emit (op := 71) s0 rfl rfl (by show szB + cs.length + 0 + 1 ≤ _; omega) (fun τ2 m1 m2 s2 => ?_)
      refine Tm_suc (fun k => by rw [f_X5_iterStore]) ?_
      have s2' : Sy T n b u al τ tb.length (szB + cs.length) mk (0 + m1) (0 + m2) tb o q v mk 0 (szB + cs.length) [em 71 (nI k0)] τ2 := by
        rw [← h1]; exact s2
      exact Tm_some (Qfin s2'.1 ⟨s2'.1.1, s2'.2⟩)
    · rw [if_neg z]
      refine Tm_no (by rw [n_eq0 (by omega)]; exact z) ?_
      refine Tm_suc (fun k => by rw [f_X5_iterStore]) ?_
      refine Tm_oP (Sy_pp s0) ?_
      refine Tm_no l30 ?_
      refine Tm_suc (fun k => by rw [f_X5_iterStore]) ?_
      refine st_emit (op := 72) s0 rfl rfl (by show szB + cs.length + 0 + 1 ≤ _; omega) (fun τ2 m1 m2 s2 => ?_)
      refine Tm_oP (Sy_pp s2) ?_
      refine st_word s2 rfl (by show szB + cs.length + 1 + 1 ≤ _; omega) (fun τ3 m3 m4 s3 => ?_)
      refine Tm_suc (fun k => by rw [f_X5_iterStore]) ?_
      have s3' : Sy T n b u al τ tb.length (szB + cs.length) mk (0 + m1 + m3) (0 + m2 + m4) tb o q v mk 0 (szB + cs.length) [em 72 (nI k0), nI c0] τ3 := by
        rw [← h1, ← h2]; exact s3
      exact Tm_some (Qfin s3'.1 ⟨s3'.1.1, s3'.2⟩)
  exact zt_call (C := True) h t (Or.inr ⟨(), rfl, trivial, fun τ' ret n1 n2 hq xk hc => cont τ' ret n1 n2 (Zy_cl h hq.1 xk hc hq.2 h.1.2.2.2.1 h.1.2.2.2.2.2) xk⟩)
end CYC
