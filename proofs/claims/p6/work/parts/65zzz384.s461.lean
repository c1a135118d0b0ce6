/-! The class: names of an iter, as the reference reads them. -/
section CVT
variable {σ σ' σ0 τ τ' : CS} {L : LV} {b : Bool} {T : Nat → Int32} {n q q' u al o v mk p sz szB nc0 sz0 mk0 a1 a2 m kk f e t nc r0 c g : Nat} {y w : Int32} {l l' cs cs' : List Int32} {tb tb' es : List Ent} {ns : List Nm} {α : Type} {S : α → Int32 → CS → Prop} {C : Prop} {E : En} {gl : Nat × (Nat → Nat → Prop)} {Vm Vm' : Nat → Prop} {bt : BT} {hd : Bool}
theorem fs_m {l : List Nm} {bs : List Int32} : (l.find? (fun x => decide (x.1 = bs))).isSome = true ↔ ∃ x, x ∈ l ∧ x.1 = bs := by
  rw [List.find?_isSome]
  constructor
  · rintro ⟨x, h1, h2⟩
    exact ⟨x, h1, of_decide_eq_true h2⟩
  · rintro ⟨x, h1, h2⟩
    exact ⟨x, h1, decide_eq_true h2⟩
/-- names of the row, here and there -/
def RwE (E : En) (c : Nat) (tb : List Ent) (r0 : Nat) : Prop := c ≤ E.2.2.1.length ∧ ∀ bs, (∃ nm, nm ∈ E.2.2.1.take (E.2.2.1.length - c) ∧ nm.1 = bs) ↔ ∃ j, r0 ≤ j ∧ j < tb.length ∧ (tb.getD j e0E).1 = bs
/-- names told, here and there -/
def NsR (u p : Nat) (hd : Bool) (es : List Ent) (ns : List Nm) : Prop := (∀ i, i < es.length → (es.getD i e0E).2 = (3, u, p + i, hd)) ∧ ∀ bs, (∃ nm, nm ∈ ns ∧ nm.1 = bs) ↔ ∃ i, i < es.length ∧ (es.getD i e0E).1 = bs
theorem NsR_nil (u p : Nat) (hd : Bool) : NsR u p hd [] [] := by
  refine ⟨fun i hi => absurd hi (Nat.not_lt_zero _), fun bs => ⟨fun z => ?_, fun z => ?_⟩⟩
  · obtain ⟨nm, z1, z2⟩ := z
    cases z1
  · obtain ⟨i, z1, z2⟩ := z
    exact absurd z1 (Nat.not_lt_zero _)
theorem NsR_ad {bs : List Int32} {pl sl : Nat} (h : NsR u p hd es ns) : NsR u p hd (es ++ [(bs, 3, u, p + es.length, hd)]) ((bs, pl, sl) :: ns) := by
  obtain ⟨h1, h2⟩ := h
  refine ⟨fun i hi => ?_, fun bs' => ?_⟩
  · rw [List.length_append] at hi
    have hi' : i < es.length + 1 := hi
    by_cases z : i = es.length
    · rw [z, gE_0]
    · rw [gE_l (by omega)]
      exact h1 i (by omega)
  · rw [List.length_append]
    constructor
    · rintro ⟨nm, m1, m2⟩
      rcases List.mem_cons.1 m1 with z | z
      · refine ⟨es.length, by show es.length < es.length + 1; omega, ?_⟩
        rw [gE_0, ← m2, z]
      · obtain ⟨i, i1, i2⟩ := (h2 bs').1 ⟨nm, z, m2⟩
        exact ⟨i, by show i < es.length + 1; omega, by rw [gE_l i1]; exact i2⟩
    · rintro ⟨i, i1, i2⟩
      have i1' : i < es.length + 1 := i1
      by_cases z : i = es.length
      · rw [z, gE_0] at i2
        exact ⟨_, List.mem_cons_self, i2⟩
      · rw [gE_l (by omega)] at i2
        obtain ⟨nm, m1, m2⟩ := (h2 bs').2 ⟨i, by omega, i2⟩
        exact ⟨nm, List.mem_cons_of_mem _ m1, m2⟩
theorem RwE_ns (h : RwE E c tb r0) (hr : r0 ≤ tb.length) (k : NsR u p hd es ns) : RwE (rowN E ns) c (tb ++ es) r0 := by
  obtain ⟨h1, h2⟩ := h
  have el : (rowN E ns).2.2.1 = ns ++ E.2.2.1 := rfl
  refine ⟨by rw [el, List.length_append]; omega, fun bs => ?_⟩
  have et : (rowN E ns).2.2.1.take ((rowN E ns).2.2.1.length - c) = ns ++ E.2.2.1.take (E.2.2.1.length - c) := by
    rw [el, List.length_append, show ns.length + E.2.2.1.length - c = ns.length + (E.2.2.1.length - c) by omega, List.take_length_add_append]
  rw [et, List.length_append]
  constructor
  · rintro ⟨nm, m1, m2⟩
    rcases List.mem_append.1 m1 with z | z
    · obtain ⟨i, i1, i2⟩ := (k.2 bs).1 ⟨nm, z, m2⟩
      exact ⟨tb.length + i, by omega, by omega, by rw [gE_r]; exact i2⟩
    · obtain ⟨j, j1, j2, j3⟩ := (h2 bs).1 ⟨nm, z, m2⟩
      exact ⟨j, j1, by omega, by rw [gE_l j2]; exact j3⟩
  · rintro ⟨j, j1, j2, j3⟩
    rcases Nat.lt_or_ge j tb.length with z | z
    · rw [gE_l z] at j3
      obtain ⟨nm, m1, m2⟩ := (h2 bs).2 ⟨j, j1, z, j3⟩
      exact ⟨nm, List.mem_append_right _ m1, m2⟩
    · have e1 : j = tb.length + (j - tb.length) := by omega
      rw [e1, gE_r] at j3
      obtain ⟨nm, m1, m2⟩ := (k.2 bs).2 ⟨j - tb.length, by omega, j3⟩
      exact ⟨nm, List.mem_append_left _ m1, m2⟩
theorem gN_a {k : Nat → Nat → Nat → BT → Nm → RG} {y : Option RT} (rw0 : RwE E c tb r0) (h : gN T n E c g q v bt k = some y) : (¬ NmG T n tb r0 q v ∧ y = none) ∨ (NmG T n tb r0 q v ∧ ∃ (e2 : Nat) (b2 : BT) (pl : Nat), k (tkN T n q) (v + 1) e2 b2 (tkS T n q, pl, v) = some y) := by
  unfold gN at h
  by_cases k26 : tkK T n q = 26
  · rw [if_pos k26] at h
    by_cases tl : ((E.2.2.1.take (E.2.2.1.length - c)).find? (fun x => decide (x.1 = tkS T n q))).isSome = true
    · rw [if_pos tl] at h
      refine Or.inl ⟨fun z => ?_, (Option.some.inj h).symm⟩
      obtain ⟨j, j1, j2, j3⟩ := (rw0.2 _).1 (fs_m.1 tl)
      exact z.2.1 j j1 j2 j3
    · rw [if_neg tl] at h
      by_cases v60 : v = 60
      · rw [if_pos v60] at h
        exact Or.inl ⟨fun z => z.2.2.1 v60, (Option.some.inj h).symm⟩
      · rw [if_neg v60] at h
        rcases gT_any h with ⟨w1, w2⟩ | ⟨w1, w2⟩
        · exact Or.inl ⟨fun z => z.2.2.2 w1, w2⟩
        · refine Or.inr ⟨⟨k26, fun j j1 j2 j3 => tl (fs_m.2 ((rw0.2 _).2 ⟨j, j1, j2, j3⟩)), v60, w1⟩, _, _, _, w2⟩
  · rw [if_neg k26] at h
    exact Or.inl ⟨fun z => k26 z.1, (Option.some.inj h).symm⟩
theorem gb_gN (k : Nat → Nat → Nat → BT → Nm → RG) (k' : RT → RG) : gb (gN T n E c g q v bt k) k' = gN T n E c g q v bt (fun q1 v1 e1 b1 nm => gb (k q1 v1 e1 b1 nm) k') := by
  unfold gN
  by_cases k26 : tkK T n q = 26
  · rw [if_pos k26, if_pos k26]
    by_cases tl : ((E.2.2.1.take (E.2.2.1.length - c)).find? (fun x => decide (x.1 = tkS T n q))).isSome = true
    · rw [if_pos tl, if_pos tl]; rfl
    · rw [if_neg tl, if_neg tl]
      by_cases v60 : v = 60
      · rw [if_pos v60, if_pos v60]; rfl
      · rw [if_neg v60, if_neg v60, gb_gT]
  · rw [if_neg k26, if_neg k26]; rfl
/-- the names of an iter, as the reference reads them: behind them, variables, whether it is a pattern, the node, the names -/
def gIn (T : Nat → Int32) (n f : Nat) (E : En) (o c g q v : Nat) (b : BT) : RG := if tkK T n q = 10 then gO o (gT T n q (fun q1 => gN T n E c g q1 v b (fun q2 v2 e2 b2 nm => gb (G T n f 18 (rowN E [nm]) (o + 1) q2 v2 0 e2 c g b2) (fun r => gW T n 11 r.1 (fun q3 => some (some (q3, r.2.1, 1, e2, r.2.2.2.2.1, r.2.2.2.2.2 ++ [nm]))))))) else gN T n E c g q v b (fun q1 v1 e1 b1 nm => some (some (q1, v1, 0, e1, b1, [nm])))
/-- behind the names -/
def INR (T : Nat → Int32) (n : Nat) (b : Bool) (u al : Nat) (tb : List Ent) (o mk p sz q v : Nat) (r : RT) (τ : CS) : Prop := ∃ es : List Ent, 1 ≤ es.length ∧ QS T n b u al (tb ++ es) o r.1 r.2.1 mk (p + es.length) sz τ ∧ NsR u p true es r.2.2.2.2.2 ∧ r.2.1 = v + es.length ∧ q + 1 + 2 * r.2.2.1 ≤ r.1 ∧ ((r.2.2.1 = 0 ∧ es.length = 1 ∧ ¬ tkK T n q = 10) ∨ (r.2.2.1 = 1 ∧ tkK T n q = 10))
theorem c_iterNames {x : Option RT} (h : QS T n b u al tb o q v mk p sz σ) (hu : u < 42) (hl : tb.length + (60 - v) ≤ 256) (hp : p ≤ 180) (l1 : L.1 1 = nI r0) (hr : r0 ≤ tb.length) (l2 : (tkK T n q = 10 → L.1 2 = 1) ∧ (¬ tkK T n q = 10 → L.1 2 = 0)) (l3 : L.1 3 = 0) (rw0 : RwE E c tb r0) (hG : gIn T n f E o c g q v bt = some x) : Tm (fun k => f_X5_iterNames k 0 L σ) (QPo b u tb.length sz mk x (fun r _ τ => INR T n b u al tb o mk p sz q v r τ) σ 0 0) := by
  have s0 := Sy_0 h
  have go := tk_go h
  have v60 := s0.1.1.2.2.2.2.2.2.1.2
  have nil0 : NsR u p true [] [] := NsR_nil u p true
  unfold gIn at hG
  by_cases k10 : tkK T n q = 10
  · rw [if_pos k10] at hG
    have g1 := go.2.2 (by omega)
    have l2' := l2.1 k10
    -- from behind a name on
    have lp : ∀ (f1 : Nat) (K : RT → RG) (E1 : En) (e2 : Nat), ∀ (L' : LV) (τ : CS) (a1 a2 q1 v1 i1 e1 : Nat) (bt1 : BT) (es : List Ent) (ns : List Nm), gb (G T n f1 18 E1 (o + 1) q1 v1 i1 e1 c g bt1) K = some x → (∀ (q v : Nat) (bt : BT) (rs : List Nm), K (q, v, 0, 0, bt, rs) = gW T n 11 q (fun q3 => some (some (q3, v, 1, e2, bt, rs ++ ns)))) → L'.1 1 = nI r0 → L'.1 2 = 1 → L'.1 3 = 0 → 1 ≤ es.length → L'.1 5 = nI (es.length - 1) → Sy T n b u al σ tb.length sz mk a1 a2 (tb ++ es) (o + 1) q1 v1 mk (p + es.length) sz [] τ → NsR u p true es ns → RwE E1 c (tb ++ es) r0 → v1 = v + es.length → q + 2 ≤ q1 → Tm (fun k => if L'.1 2 = 0 then f_X5_iterNames k 11 L' τ else if τ.1 3702 = 16 then f_X5_iterNames k 12 (lI L' 100 1) τ else f_X5_iterNames k 11 L' τ) (QPo b u tb.length sz mk x (fun r _ τ => INR T n b u al tb o mk p sz q v r τ) σ a1 a2) := by
      intro f1
      induction f1 with
      | zero =>
        intro K E1 e2 L' τ a1 a2 q1 v1 i1 e1 bt1 es ns hg
        exact absurd hg (by intro z; cases z)
      | succ f1 ih =>
        intro K E1 e2 L' τ a1 a2 q1 v1 i1 e1 bt1 es ns hg hK l1 l2 l3 le1 l5 s1 nr rw1 ev lq
        have go1 := tk_go s1.1.1
        have vv := s1.1.1.2.2.2.2.2.2.1.2
        have e18 : G T n (f1 + 1) 18 E1 (o + 1) q1 v1 i1 e1 c g bt1 = (if tkK T n q1 = 12 then gT T n q1 (fun q1 => gN T n E1 c g q1 v1 bt1 (fun q2 v2 e2 b2 nm => gb (G T n f1 18 (rowN E1 [nm]) (o + 1) q2 v2 0 e2 c g (bSet b2 9 e1 (nI e2))) (fun r => some (some (r.1, r.2.1, 0, 0, r.2.2.2.2.1, r.2.2.2.2.2 ++ [nm]))))) else some (some (q1, v1, 0, 0, bt1, []))) := rfl
        rw [e18] at hg
        have la : (tb ++ es).length = tb.length + es.length := List.length_append
        refine Tm_no (by rw [l2]; decide) ?_
        by_cases k12 : tkK T n q1 = 12
        · rw [if_pos k12, gb_gT] at hg
          simp only [gb_gN, gb_gb] at hg
          have g2 := go1.2.2 (by omega)
          refine Tm_yes ((lx_k (kk := 12) s1.1.1 (by decide)).2 k12) ?_
          refine Tm_suc (fun k => by rw [f_X5_iterNames]) ?_
          refine Tm_no (by show ¬ (1 : Int32) = 0; decide) ?_
          refine st_advY s1 (gT_any hg) (fun τ2 r2 er c2 s2 => ?_)
          rw [er]
          refine Tm_suc (fun k => by rw [f_X5_iterNames]) ?_
          have go2 := tk_go s2.1.1
          refine st_name (r0 := r0) s2 hu (fun z => by rw [la]; omega) (by omega) l1 (by rw [la]; omega) l3 rfl ?_ (gN_a rw1 c2) (fun L3 τ3 m1 m2 c3 k26 y1 y2 y3 y5 s3 => ?_)
          · show uN (L'.1 5 + 1) ≤ 60
            rw [l5, n_add1, u_n (by omega)]
            omega
          · obtain ⟨e3, b3, pl, c3⟩ := c3
            have ea : tb ++ es ++ [(tkS T n (tkN T n q1), 3, u, p + es.length, true)] = tb ++ (es ++ [(tkS T n (tkN T n q1), 3, u, p + es.length, true)]) := List.append_assoc _ _ _
            have lb : (es ++ [(tkS T n (tkN T n q1), 3, u, p + es.length, true)]).length = es.length + 1 := List.length_append
            rw [ea] at s3
            have nr2 := NsR_ad (bs := tkS T n (tkN T n q1)) (pl := pl) (sl := v1) nr
            have rw2 : RwE (rowN E1 [(tkS T n (tkN T n q1), pl, v1)]) c (tb ++ (es ++ [(tkS T n (tkN T n q1), 3, u, p + es.length, true)])) r0 := by
              rw [← ea]
              have nr1 := NsR_ad (u := u) (p := p + es.length) (bs := tkS T n (tkN T n q1)) (pl := pl) (sl := v1) (hd := true) (es := []) (ns := []) (NsR_nil _ _ _)
              exact RwE_ns rw1 (by rw [la]; omega) nr1
            have g3 : tkN T n q1 < tkN T n (tkN T n q1) ∨ True := Or.inr trivial
            have nb := (tkN_b T n (tkN T n q1) go1.2.1).1
            refine ih (fun r => gb (some (some (r.1, r.2.1, 0, 0, r.2.2.2.2.1, r.2.2.2.2.2 ++ [(tkS T n (tkN T n q1), pl, v1)]))) K) (rowN E1 [(tkS T n (tkN T n q1), pl, v1)]) e2 L3 τ3 _ _ _ _ _ _ _ (es ++ [(tkS T n (tkN T n q1), 3, u, p + es.length, true)]) ((tkS T n (tkN T n q1), pl, v1) :: ns) c3 (fun q v bt rs => ?_) (by rw [y1]; exact l1) (by rw [y2]; exact l2) y3 (by rw [lb]; omega) ?_ (by rw [lb]; exact s3) nr2 rw2 (by rw [lb]; omega) (by omega)
            · show K (q, v, 0, 0, bt, rs ++ [(tkS T n (tkN T n q1), pl, v1)]) = _
              rw [hK]
              have e9 : rs ++ [(tkS T n (tkN T n q1), pl, v1)] ++ ns = rs ++ ((tkS T n (tkN T n q1), pl, v1) :: ns) := by rw [List.append_assoc]; rfl
              rw [e9]
            · rw [y5, lb]
              show L'.1 5 + 1 = _
              rw [l5, n_add1]
              exact congrArg nI (by omega)
        · rw [if_neg k12] at hg
          have hg2 : K (q1, v1, 0, 0, bt1, []) = some x := hg
          rw [hK] at hg2
          refine Tm_no (fun z => k12 ((lx_k (kk := 12) s1.1.1 (by decide)).1 z)) ?_
          refine Tm_suc (fun k => by rw [f_X5_iterNames]) ?_
          refine Tm_suc (fun k => by rw [f_X5_iterNames]) ?_
          refine Tm_yes (by show (0 : Int32) = 0; rfl) ?_
          refine Tm_suc (fun k => by rw [f_X5_iterNames]) ?_
          refine Tm_suc (fun k => by rw [f_X5_iterNames]) ?_
          refine Tm_no (by show ¬ (60 : Int32) < L'.1 5 + 1; rw [l5, n_add1]; show ¬ nI 60 < _; rw [n_lt (by decide) (by omega)]; omega) ?_
          refine Tm_yes rfl ?_
          refine Tm_suc (fun k => by rw [f_X5_iterNames]) ?_
          refine Tm_no (by show ¬ L'.1 2 = 0; rw [l2]; decide) ?_
          refine st_closes (kk := 11) s1 (by decide) rfl (gW_a3 hg2) (fun τ3 ret3 m1 m2 c3 s3 => ?_)
          obtain ⟨k11, c3⟩ := c3
          have g3 := go1.2.2 (by omega)
          refine Tm_suc (fun k => by rw [f_X5_iterNames]) ?_
          rw [← Option.some.inj c3]
          refine Tm_some (Qfin s3.1 ⟨es, le1, s3.1.1, nr, ev, ?_, Or.inr ⟨rfl, k10⟩⟩)
          show q + 1 + 2 * 1 ≤ tkN T n q1
          omega
    refine Tm_suc (fun k => by rw [f_X5_iterNames]) ?_
    refine Tm_no (by rw [l2']; decide) ?_
    have hop : (¬ (¬ o = 20 ∧ ¬ tkK T n (tkN T n q) = 0) ∧ x = none) ∨ ((¬ o = 20 ∧ ¬ tkK T n (tkN T n q) = 0) ∧ gN T n E c g (tkN T n q) v bt (fun q2 v2 e2 b2 nm => gb (G T n f 18 (rowN E [nm]) (o + 1) q2 v2 0 e2 c g b2) (fun r => gW T n 11 r.1 (fun q3 => some (some (q3, r.2.1, 1, e2, r.2.2.2.2.1, r.2.2.2.2.2 ++ [nm]))))) = some x) := by
      rcases gO_any hG with ⟨w1, w2⟩ | ⟨w1, w2⟩
      · exact Or.inl ⟨fun z => z.1 w1, w2⟩
      · rcases gT_any w2 with ⟨w3, w4⟩ | ⟨w3, w4⟩
        · exact Or.inl ⟨fun z => z.2 w3, w4⟩
        · exact Or.inr ⟨⟨w1, w3⟩, w4⟩
    refine st_opens s0 hop (fun τ1 ret n1 n2 c1 s1 => ?_)
    refine Tm_suc (fun k => by rw [f_X5_iterNames]) ?_
    have go1 := tk_go s1.1.1
    refine st_name (r0 := r0) s1 hu (fun z => by omega) (by omega) l1 hr l3 rfl (by show uN 0 ≤ 60; decide) (gN_a rw0 c1) (fun L3 τ3 m1 m2 c3 k26 y1 y2 y3 y5 s3 => ?_)
    obtain ⟨e3, b3, pl, c3⟩ := c3
    have nr1 := NsR_ad (u := u) (p := p) (bs := tkS T n (tkN T n q)) (pl := pl) (sl := v) (hd := true) nil0
    have g3 := go1.2.2 (by omega)
    exact lp f (fun r => gW T n 11 r.1 (fun q3 => some (some (q3, r.2.1, 1, e3, r.2.2.2.2.1, r.2.2.2.2.2 ++ [(tkS T n (tkN T n q), pl, v)])))) (rowN E [(tkS T n (tkN T n q), pl, v)]) e3 L3 τ3 _ _ _ _ _ _ _ [(tkS T n (tkN T n q), 3, u, p, true)] [(tkS T n (tkN T n q), pl, v)] c3 (fun _ _ _ _ => rfl) (by rw [y1]; exact l1) (by rw [y2]; exact l2') y3 (Nat.le_refl _) (by rw [y5]; rfl) s3 nr1 (RwE_ns rw0 hr nr1) rfl (by omega)
  · rw [if_neg k10] at hG
    have l2' := l2.2 k10
    refine Tm_suc (fun k => by rw [f_X5_iterNames]) ?_
    refine Tm_yes l2' ?_
    refine Tm_suc (fun k => by rw [f_X5_iterNames]) ?_
    refine st_name (r0 := r0) s0 hu (fun z => by omega) (by omega) l1 hr l3 rfl (by show uN 0 ≤ 60; decide) (gN_a rw0 hG) (fun L3 τ3 m1 m2 c3 k26 y1 y2 y3 y5 s3 => ?_)
    obtain ⟨e3, b3, pl, c3⟩ := c3
    have nr1 := NsR_ad (u := u) (p := p) (bs := tkS T n q) (pl := pl) (sl := v) (hd := true) nil0
    have g3 := go.2.2 (by omega)
    refine Tm_yes (by rw [y2]; exact l2') ?_
    refine Tm_suc (fun k => by rw [f_X5_iterNames]) ?_
    refine Tm_suc (fun k => by rw [f_X5_iterNames]) ?_
    refine Tm_yes rfl ?_
    refine Tm_suc (fun k => by rw [f_X5_iterNames]) ?_
    refine Tm_suc (fun k => by rw [f_X5_iterNames]) ?_
    refine Tm_no (by show ¬ (60 : Int32) < L3.1 5 + 1; rw [y5]; show ¬ (60 : Int32) < 0 + 1; decide) ?_
    refine Tm_yes rfl ?_
    refine Tm_suc (fun k => by rw [f_X5_iterNames]) ?_
    refine Tm_yes (by show L3.1 2 = 0; rw [y2]; exact l2') ?_
    refine Tm_suc (fun k => by rw [f_X5_iterNames]) ?_
    rw [← Option.some.inj c3]
    refine Tm_some (Qfin s3.1 ⟨[(tkS T n q, 3, u, p, true)], Nat.le_refl _, s3.1.1, nr1, rfl, ?_, Or.inl ⟨rfl, rfl, k10⟩⟩)
    show q + 1 + 2 * 0 ≤ tkN T n q
    omega
end CVT
