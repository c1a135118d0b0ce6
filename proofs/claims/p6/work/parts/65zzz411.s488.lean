/-! The class: assignments, operations, takings are read. -/
section CXD
variable {σ σ' σ0 τ τ' : CS} {L : LV} {b : Bool} {T : Nat → Int32} {n q q' u al o v mk p sz szB nc0 sz0 mk0 a1 a2 m kk f e s ow a t0 g D op : Nat} {y : Int32} {l l' cs cs' ll : List Int32} {tb : List Ent} {E : En} {gl : Nat × (Nat → Nat → Prop)} {Vm : Nat → Prop} {Pc : Nat → Nat → Prop} {bt : BT} {ks : List Nat}
/-- ok begins no exp -/
theorem g_63 (h : tkK T n q = 63) : ∀ (F : Nat) (r : RT), ¬ G T n F 0 E o q v 0 0 0 0 bt = some (some r) := by
  have h13 : ∀ (F : Nat) (r : RT), ¬ G T n F 13 E o q v 0 0 0 0 bt = some (some r) := by
    intro F r e
    cases F with
    | zero => cases e
    | succ F =>
      rw [G_13, if_neg (by omega), if_neg (by omega), if_neg (by omega), if_neg (by omega), if_neg (by omega), if_neg (by omega), if_neg (by omega), if_neg (by omega), if_neg (fun z => by omega), if_neg (fun z => by rcases z with z | z | z <;> omega)] at e
      cases e
  have h11 : ∀ (F : Nat) (r : RT), ¬ G T n F 11 E o q v 0 0 0 0 bt = some (some r) := by
    intro F r e
    cases F with
    | zero => cases e
    | succ F =>
      rw [G_11, if_neg (by omega), if_neg (by omega)] at e
      rcases gb_any e with ⟨_, y⟩ | ⟨s, y, _⟩
      · cases y
      · exact h13 _ _ y
  have h10 : ∀ (F : Nat) (r : RT), ¬ G T n F 10 E o q v 0 0 0 0 bt = some (some r) := by
    intro F r e
    cases F with
    | zero => cases e
    | succ F =>
      rw [G_10] at e
      rcases gb_any e with ⟨_, y⟩ | ⟨s, y, _⟩
      · cases y
      · exact h11 _ _ y
  have h8 : ∀ (F : Nat) (r : RT), ¬ G T n F 8 E o q v 0 0 0 0 bt = some (some r) := by
    intro F r e
    cases F with
    | zero => cases e
    | succ F =>
      rw [G_8] at e
      rcases gb_any e with ⟨_, y⟩ | ⟨s, y, _⟩
      · cases y
      · exact h10 _ _ y
  have h6 : ∀ (F : Nat) (r : RT), ¬ G T n F 6 E o q v 0 0 0 0 bt = some (some r) := by
    intro F r e
    cases F with
    | zero => cases e
    | succ F =>
      rw [G_6] at e
      rcases gb_any e with ⟨_, y⟩ | ⟨s, y, _⟩
      · cases y
      · exact h8 _ _ y
  have h5 : ∀ (F : Nat) (r : RT), ¬ G T n F 5 E o q v 0 0 0 0 bt = some (some r) := by
    intro F r e
    cases F with
    | zero => cases e
    | succ F =>
      rw [G_5] at e
      rcases gb_any e with ⟨_, y⟩ | ⟨s, y, _⟩
      · cases y
      · exact h6 _ _ y
  have h4 : ∀ (F : Nat) (r : RT), ¬ G T n F 4 E o q v 0 0 0 0 bt = some (some r) := by
    intro F r e
    cases F with
    | zero => cases e
    | succ F =>
      rw [G_4, if_neg (by omega)] at e
      exact h5 _ _ e
  have h2 : ∀ (F : Nat) (r : RT), ¬ G T n F 2 E o q v 0 0 0 0 bt = some (some r) := by
    intro F r e
    cases F with
    | zero => cases e
    | succ F =>
      rw [G_2] at e
      rcases gb_any e with ⟨_, y⟩ | ⟨s, y, _⟩
      · cases y
      · exact h4 _ _ y
  intro F r e
  cases F with
  | zero => cases e
  | succ F =>
    rw [G_0] at e
    rcases gb_any e with ⟨_, y⟩ | ⟨s, y, _⟩
    · cases y
    · exact h2 _ _ y
def b0T : BT := (1, 0, fun _ _ => 0, fun _ => 0, fun _ => 0)
theorem g_ex (E : En) (o q v : Nat) (hq : q ≤ n) (hv : v ≤ 60) : ∃ F x, G T n F 0 E o q v 0 0 0 0 b0T = some x := ⟨30 * n + 30, g_tot T n _ 0 E o q v 0 0 0 0 b0T (by decide) hq hv (Nat.le_refl 1) trivial (by simp only [lvG]; omega)⟩
/-- behind a statement, before its ; -/
def Sem (T : Nat → Int32) (n : Nat) (x : Option RT) (z : Option (Nat × Nat)) : Prop := (z = none ∧ x = none) ∨ ∃ (r : Nat × Nat) (e : Nat) (bb : BT), z = some r ∧ gW T n 13 r.1 (fun q4 => some (some (q4, r.2, 0, e, bb, []))) = some x
/-- code that comes behind m values, and makes an end of them -/
def AsR (T : Nat → Int32) (n : Nat) (b : Bool) (u al : Nat) (gl : Nat × (Nat → Nat → Prop)) (Pc : Nat → Nat → Prop) (Vm : Nat → Prop) (tb : List Ent) (o mk sz q v m c : Nat) (r : Nat × Nat) (τ : CS) : Prop := ∃ ll : List Int32, QS T n b u al tb o r.1 r.2 mk 0 (sz + ll.length) τ ∧ (∀ i, i < ll.length → cdr b τ (sz + i) = ll.getD i 0) ∧ Sse u gl Pc Vm [] 0 m 0 ll ∧ 2 * ll.length ≤ 3 * (r.1 - q) + c ∧ q < r.1 ∧ v ≤ r.2
theorem tgO_of (tv : TgV u gl Vm s ow) (hg : g = if ow = u then 0 else 1) (h1 : gl.1 ≤ 1000) : TgO gl Vm g s := by
  obtain ⟨t1, t2, t3⟩ := tv
  by_cases z : ow = u
  · rw [if_pos z] at hg
    exact Or.inl ⟨hg, t1 z⟩
  · rw [if_neg z] at hg
    exact Or.inr ⟨hg, t2 z, h1⟩
theorem kOK_b (h : kOK ks) : ∀ i, i < ks.length → ks.getD i 0 < 256 := fun i hi => by have := h i hi; omega
theorem tpv_0 {m D w : Nat} {ms : List Nat} (h : D ≤ m) : TpV m (sh [] w ms) D := Or.inl h
/-- the value is there: it is written, and all is dropped -/
theorem Sse_as (tv : TgV u gl Vm s ow) (hg : g = if ow = u then 0 else 1) (h1 : gl.1 ≤ 1000) (ko : kOK ks) (kl : ks.length ≤ 30000) : Sse u gl Pc Vm [] 0 (wdN ks + 1) 0 (rwL (192 + g) s (wdN ks + 1) ks ++ [em 37 (nI (wdN ks + 1))]) := by
  have wb := wdN_b ks
  have e0 : wdN ks + 1 = 0 + (wdN ks + 1) := by omega
  have k1 : Sst u gl Pc Vm [] 0 (wdN ks + 1) (wdN ks + 1) (rwL (192 + g) s (wdN ks + 1) ks) := Sst_i (Is_wr (tgO_of tv hg h1) (kOK_b ko) (Nat.le_refl _) (fun w ms => tpv_0 (Nat.le_refl _)) (by omega) (by omega)) (by rw [rwL_l]; omega) (by omega)
  have k2 : Sse u gl Pc Vm [] 0 (wdN ks + 1) 0 [em 37 (nI (wdN ks + 1))] := by
    have z := Sse_i (pre := []) (Is_dr (u := u) (gl := gl) (Pc := Pc) (Vm := Vm) (pre := []) (n := 0) (k := wdN ks + 1) (by omega)) (by show 1 ≤ 1; decide) (by omega)
    rw [← e0] at z
    exact z
  have z := Sse_seq k1 k2 (by omega)
  exact z
theorem c_assignment {i : Nat} {x : Option RT} (h : QS T n b u al tb o q v mk 0 sz σ) (ev : EvX E b u al gl Vm tb σ) (bd : BdX n o q v mk 0 sz tb.length) (hs2 : 2 * sz + 3 * (n - q) + 2 * ks.length + 100 ≤ 73728) (tm : TgM σ t0 s ow ks) (ht : t0 + 4 + ks.length ≤ mk) (tv : TgV u gl Vm s ow) (ko : kOK ks) (kl : ks.length ≤ 30000) (hi : i = if ks.length = 0 then 1 else 2) (l1 : L.1 1 = nI t0) (hG : (if tkK T n q = 63 then (if i = 1 then gT T n q (fun q2 => some (some (q2, v, 0, 0, bt, []))) else some none) else G T n f 0 E o q v 0 0 0 0 bt) = some x) : Tm (fun k => f_X5_assignment k 0 L σ) (QPo b u tb.length sz mk (x.map (fun r => (r.1, r.2.1))) (fun r _ τ => AsR T n b u al gl Pc Vm tb o mk sz q v (wdN ks) (2 * ks.length + 10) r τ) σ 0 0) := by
  have s0 := Sy_0 h
  have sn := h.2.2.1
  have sn1 := sn.2.1
  have sn2 := sn.2.2
  have u42 := ev.2.2.1.2
  have gl1 := ev.1.1
  have go := tk_go h
  have n10 := bd.1
  have v60 := h.2.2.2.2.2.2.1.2
  have wb := wdN_b ks
  obtain ⟨g, hg⟩ : ∃ g, g = if ow = u then 0 else 1 := ⟨_, rfl⟩
  have e12 : L.1 1 + 2 = nI (t0 + 2) := by rw [l1]; exact n_add (q := 2) (by omega)
  have e13 : L.1 1 + 3 = nI (t0 + 3) := by rw [l1]; exact n_add (q := 3) (by omega)
  -- it is written
  have b2 : ∀ (L' : LV) (τ : CS) (a1 a2 : Nat) (q1 v1 : Nat) (ll : List Int32), L'.1 1 = nI t0 → Sy T n b u al σ tb.length sz mk a1 a2 tb o q1 v1 mk 0 sz ll τ → Sst u gl Pc Vm [] 0 (wdN ks) (wdN ks + 1) ll → 2 * ll.length ≤ 3 * (q1 - q) + 1 → 1 ≤ ll.length → q < q1 → v ≤ v1 → Tm (fun k => f_X5_assignment k 2 L' τ) (QPo b u tb.length sz mk (some (q1, v1)) (fun r _ τ => AsR T n b u al gl Pc Vm tb o mk sz q v (wdN ks) (2 * ks.length + 10) r τ) σ a1 a2) := by
    intro L' τ a1 a2 q1 v1 ll j1 s1 sg ln l1' lq lv
    have go1 := tk_go s1.1.1
    have j2 : L'.1 1 + 2 = nI (t0 + 2) := by rw [j1]; exact n_add (q := 2) (by omega)
    have tm1 := TgM_k tm s1.1.2.1 ht
    have m1 := s1.1.1.2.2.1.2.1
    have k1 : τ.2.2.1 41 (nI (t0 + 2)).toNatClampNeg = nI (wdN ks) := by rw [n_cl (by omega)]; exact tm1.1.2.2.1
    refine Tm_suc (fun k => by rw [f_X5_assignment]) ?_
    rw [j2]
    refine Tm_chk (n_in (by omega) (by omega)) ?_
    rw [k1, n_add1]
    refine st_emitT (op := 192) (D := wdN ks + 1) s1 u42 tm1 ht hg tv.2.2 (by decide) (by omega) rfl j1 rfl (fun τ2 ret2 n1 n2 s2 xk2 => ?_)
    refine Tm_oP (Sy_pp s2) ?_
    have tm2 := TgM_k tm1 xk2 ht
    have m2 := s2.1.1.2.2.1.2.1
    have k2 : τ2.2.2.1 41 (nI (t0 + 2)).toNatClampNeg = nI (wdN ks) := by rw [n_cl (by omega)]; exact tm2.1.2.2.1
    refine Tm_chk (n_in (n := sN τ2 41) (by omega) (by omega)) ?_
    rw [k2, n_add1]
    have lr : (ll ++ rwL (192 + g) s (wdN ks + 1) ks).length = ll.length + (ks.length + 3) := by rw [List.length_append, rwL_l]
    refine st_emit (op := 37) s2 rfl rfl (by rw [lr]; omega) (fun τ3 n3 n4 s3 => ?_)
    have ea : ll ++ rwL (192 + g) s (wdN ks + 1) ks ++ [em 37 (nI (wdN ks + 1))] = ll ++ (rwL (192 + g) s (wdN ks + 1) ks ++ [em 37 (nI (wdN ks + 1))]) := List.append_assoc _ _ _
    have s3' : Sy T n b u al σ tb.length sz mk (a1 + n1 + n3) (a2 + n2 + n4) tb o q1 v1 mk 0 sz (ll ++ (rwL (192 + g) s (wdN ks + 1) ks ++ [em 37 (nI (wdN ks + 1))])) τ3 := by
      rw [← ea]; exact s3
    have lf : (ll ++ (rwL (192 + g) s (wdN ks + 1) ks ++ [em 37 (nI (wdN ks + 1))])).length = ll.length + (ks.length + 4) := by rw [← ea, List.length_append, lr]; show ll.length + (ks.length + 3) + 1 = _; omega
    have ty : Sse u gl Pc Vm [] 0 (wdN ks) 0 (ll ++ (rwL (192 + g) s (wdN ks + 1) ks ++ [em 37 (nI (wdN ks + 1))])) := Sse_seq sg (Sse_as tv hg gl1 ko kl) (by omega)
    refine Tm_some (Qfin s3'.1 ⟨_, s3'.1.1, s3'.2, ty, ?_, lq, lv⟩)
    rw [lf]
    show 2 * (ll.length + (ks.length + 4)) ≤ 3 * (q1 - q) + (2 * ks.length + 10)
    omega
  -- an exp
  have b1 : ∀ (F : Nat) (y : Option RT) (bt' : BT) (L' : LV), L'.1 1 = nI t0 → G T n F 0 E o q v 0 0 0 0 bt' = some y → Tm (fun k => f_X5_assignment k 1 L' σ) (QPo b u tb.length sz mk (y.map (fun r => (r.1, r.2.1))) (fun r _ τ => AsR T n b u al gl Pc Vm tb o mk sz q v (wdN ks) (2 * ks.length + 10) r τ) σ 0 0) := by
    intro F y bt' L' j1 hg'
    refine Tm_suc (fun k => by rw [f_X5_assignment]) ?_
    cases y with
    | none => exact st_exp (C := True) (px_all F 400) (Or.inl ⟨rfl, rfl⟩) s0 ev bd rfl (by omega) hg' (Or.inl ⟨rfl, rfl⟩) (fun _ _ _ _ _ _ z => by cases z)
    | some r =>
      refine st_exp (C := True) (px_all F 400) (Or.inl ⟨rfl, rfl⟩) s0 ev bd rfl (by omega) hg' (Or.inr ⟨r, rfl, trivial⟩) (fun τ1 ret1 n1 n2 r1 l1' hz _ s1 xk sg ln lt lv tg => ?_)
      cases hz
      exact b2 _ τ1 _ _ r.1 r.2.1 l1' j1 s1 (Sst_sg sg (wdN ks)) ln sg.1 lt lv
  by_cases k63 : tkK T n q = 63
  · rw [if_pos k63] at hG
    by_cases kz : ks.length = 0
    · rw [if_pos kz] at hi
      rw [if_pos hi] at hG
      have w0 : wdN ks = 0 := by omega
      rcases gT_any hG with ⟨w1, w2⟩ | ⟨w1, w2⟩
      · rw [w2]
        refine Tm_suc (fun k => by rw [f_X5_assignment]) ?_
        refine Tm_yes ((lx_k (kk := 63) h (by decide)).2 k63) ?_
        rw [e13]
        refine Tm_chk (n_in (by omega) (by omega)) ?_
        rw [n_cl (by omega)]
        refine Tm_yes (by rw [tm.1.2.2.2, kz]; rfl) ?_
        exact st_advY (C := True) s0 (Or.inl ⟨w1, rfl⟩) (fun _ _ _ _ s => absurd w1 s.1.1.1.2.2.2.2.1)
      · rw [← Option.some.inj w2]
        have g1 := go.2.2 (by omega)
        refine Tm_suc (fun k => by rw [f_X5_assignment]) ?_
        refine Tm_yes ((lx_k (kk := 63) h (by decide)).2 k63) ?_
        rw [e13]
        refine Tm_chk (n_in (by omega) (by omega)) ?_
        rw [n_cl (by omega)]
        refine Tm_yes (by rw [tm.1.2.2.2, kz]; rfl) ?_
        refine st_advY (C := True) s0 (Or.inr ⟨w1, trivial⟩) (fun τ1 r1 er _ s1 => ?_)
        rw [er]
        refine Tm_oP (Sy_pp s1) ?_
        refine st_emit (op := 21) s1 rfl rfl (by show sz + 0 + 1 ≤ _; have := bd.2.1; omega) (fun τ2 n1 n2 s2 => ?_)
        refine b2 _ τ2 _ _ (tkN T n q) v [em 21 0] l1 s2 ?_ (by show 2 * 1 ≤ _; omega) (Nat.le_refl _) g1 (Nat.le_refl _)
        rw [w0]
        exact Sst_i Is_po (Nat.le_refl _) (by show 1 ≤ 0 + 1; omega)
    · rw [if_neg kz] at hi
      rw [if_neg (by omega)] at hG
      obtain ⟨F, y, hy⟩ := g_ex (T := T) (n := n) E o q v go.1 v60
      have yn : y = none := by
        cases y with
        | none => rfl
        | some r => exact absurd hy (g_63 k63 F r)
      subst yn
      rw [← Option.some.inj hG]
      refine Tm_suc (fun k => by rw [f_X5_assignment]) ?_
      refine Tm_yes ((lx_k (kk := 63) h (by decide)).2 k63) ?_
      rw [e13]
      refine Tm_chk (n_in (by omega) (by omega)) ?_
      rw [n_cl (by omega), tm.1.2.2.2]
      refine Tm_no (by rw [n_eq0 (by omega)]; exact kz) ?_
      exact b1 F none b0T L l1 hy
  · rw [if_neg k63] at hG
    refine Tm_suc (fun k => by rw [f_X5_assignment]) ?_
    refine Tm_no (fun z => k63 ((lx_k (kk := 63) h (by decide)).1 z)) ?_
    exact b1 f x bt L l1 hG
end CXD
