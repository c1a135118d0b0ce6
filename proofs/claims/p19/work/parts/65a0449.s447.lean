section JnS447
/-! The class: its parser lays code and looks names up. -/
section CVF
variable {σ σ' σ0 τ τ' : CS} {L : LV} {b : Bool} {T : Nat → Int32} {n q q' u al o v mk p sz szB nc0 sz0 mk0 a1 a2 m kk : Nat} {y : Int32} {l l' cs cs' : List Int32} {tb : List Ent} {α : Type} {x : Fl α} {S : α → Int32 → CS → Prop} {C : Prop} {E : En} {gl : Nat × (Nat → Nat → Prop)} {Vm : Nat → Prop}
/-- the code laid since szB -/
def Sy (T : Nat → Int32) (n : Nat) (b : Bool) (u al : Nat) (σ0 : CS) (nc0 sz0 mk0 a1 a2 : Nat) (tb : List Ent) (o q v mk p szB : Nat) (cs : List Int32) (τ : CS) : Prop := Sx T n b u al σ0 nc0 sz0 mk0 a1 a2 tb o q v mk p (szB + cs.length) τ ∧ ∀ i, i < cs.length → cdr b τ (szB + i) = cs.getD i 0
theorem Sy_0 (h : QS T n b u al tb o q v mk p sz σ) : Sy T n b u al σ tb.length sz mk 0 0 tb o q v mk p sz [] σ := ⟨Sx_0 h, fun i hi => absurd hi (Nat.not_lt_zero _)⟩
theorem Sx_cd (h : Sx T n b u al σ0 nc0 sz0 mk0 a1 a2 tb o q v mk p sz τ) (a : CdO b sz l τ τ') {n1 n2 : Nat} (c : n1 + PhC τ' ≤ PhC τ ∧ n2 + PhS τ' ≤ PhS τ) : Sx T n b u al σ0 nc0 sz0 mk0 (a1 + n1) (a2 + n2) tb o q v mk p (sz + l.length) τ' := by
  obtain ⟨h1, h2, h3, h4, h5, h6⟩ := h
  obtain ⟨q1, q2⟩ := QS_cd h1 a
  exact ⟨q1, XK_t h2 q2 h4 h5 h6, ⟨by omega, by omega⟩, h4, by omega, h6⟩
theorem Sy_cd (h : Sy T n b u al σ0 nc0 sz0 mk0 a1 a2 tb o q v mk p szB cs τ) (a : CdO b (szB + cs.length) l τ τ') {n1 n2 : Nat} (c : n1 + PhC τ' ≤ PhC τ ∧ n2 + PhS τ' ≤ PhS τ) : Sy T n b u al σ0 nc0 sz0 mk0 (a1 + n1) (a2 + n2) tb o q v mk p szB (cs ++ l) τ' := by
  obtain ⟨h1, h2⟩ := h
  have z := Sx_cd h1 a c
  refine ⟨by rw [List.length_append, ← Nat.add_assoc]; exact z, fun i hi => ?_⟩
  rw [List.length_append] at hi
  obtain ⟨_, _, a3, a4⟩ := a
  rcases Nat.lt_or_ge i cs.length with w | w
  · rw [(a3 (szB + i) (by omega)).1, h2 i w, gd_l w]
  · have e := a4 (i - cs.length) (by omega)
    rw [show szB + cs.length + (i - cs.length) = szB + i from by omega] at e
    rw [e]
    have g := gd_r (a := cs) (b := l) (i - cs.length)
    rw [show cs.length + (i - cs.length) = i from by omega] at g
    exact g.symm
/-- an instruction -/
theorem st_emit {op : Nat} {f : Nat → RS → Option RS} (h : Sy T n b u al σ0 nc0 sz0 mk0 a1 a2 tb o q v mk p szB cs τ) (hb : L.2.2.1 0 = b) (h1 : L.1 1 = nI op) (hm : szB + cs.length + 1 ≤ 36864) (cont : ∀ (τ' : CS) (n1 n2 : Nat), Sy T n b u al σ0 nc0 sz0 mk0 (a1 + n1) (a2 + n2) tb o q v mk p szB (cs ++ [em op (L.1 2)]) τ' → Tm (fun k => f k ((0, nI (szB + cs.length)), τ', (n1, n2))) (QPo b u nc0 sz0 mk0 x S σ0 (a1 + n1) (a2 + n2))) : Tm (fun k => ox (f_X7_emit__P k 0 L τ) (f k)) (QPo b u nc0 sz0 mk0 x S σ0 a1 a2) := by
  refine Tm_ox (c_emit h.1.1.2.1 hb hm) (fun r w nz => absurd (by rw [w.1]) nz) (fun r w e0 => ?_)
  obtain ⟨w1, w2, w3⟩ := w
  rw [h1] at w3
  have k := cont r.2.1 r.2.2.1 r.2.2.2 (Sy_cd h w3 ⟨w2.1, w2.2⟩)
  have er : ((0, nI (szB + cs.length)), r.2.1, (r.2.2.1, r.2.2.2)) = r := by rw [← w1]
  rw [er] at k
  exact Tm_mono k (fun q z => QPo_s z)
theorem st_word {f : Nat → RS → Option RS} (h : Sy T n b u al σ0 nc0 sz0 mk0 a1 a2 tb o q v mk p szB cs τ) (hb : L.2.2.1 0 = b) (hm : szB + cs.length + 1 ≤ 36864) (cont : ∀ (τ' : CS) (n1 n2 : Nat), Sy T n b u al σ0 nc0 sz0 mk0 (a1 + n1) (a2 + n2) tb o q v mk p szB (cs ++ [L.1 1]) τ' → Tm (fun k => f k ((0, nI (szB + cs.length)), τ', (n1, n2))) (QPo b u nc0 sz0 mk0 x S σ0 (a1 + n1) (a2 + n2))) : Tm (fun k => ox (f_X7_word__P k 0 L τ) (f k)) (QPo b u nc0 sz0 mk0 x S σ0 a1 a2) := by
  refine Tm_ox (c_word h.1.1.2.1 hb hm) (fun r w nz => absurd (by rw [w.1]) nz) (fun r w e0 => ?_)
  obtain ⟨w1, w2, w3⟩ := w
  have k := cont r.2.1 r.2.2.1 r.2.2.2 (Sy_cd h w3 ⟨w2.1, w2.2⟩)
  have er : ((0, nI (szB + cs.length)), r.2.1, (r.2.2.1, r.2.2.2)) = r := by rw [← w1]
  rw [er] at k
  exact Tm_mono k (fun q z => QPo_s z)
theorem Sy_pp (h : Sy T n b u al σ0 nc0 sz0 mk0 a1 a2 tb o q v mk p szB cs τ) : sPp τ = some b := h.1.1.2.2.2.2.1.1
/-- a call within that lays code -/
theorem Sy_ca {ll : List Int32} (h : Sy T n b u al σ0 nc0 sz0 mk0 a1 a2 tb o q v mk p szB cs τ) {n1 n2 : Nat} {o' v' mk' p' : Nat} {tb' : List Ent} (hq : QS T n b u al tb' o' q' v' mk' p' (szB + cs.length + ll.length) τ') (xk : XK b u tb.length (szB + cs.length) mk τ τ') (c : a1 + n1 + PhC τ' ≤ PhC σ0 ∧ a2 + n2 + PhS τ' ≤ PhS σ0) (hl : ∀ i, i < ll.length → cdr b τ' (szB + cs.length + i) = ll.getD i 0) (h4 : nc0 ≤ tb'.length) (h6 : mk0 ≤ mk') : Sy T n b u al σ0 nc0 sz0 mk0 (a1 + n1) (a2 + n2) tb' o' q' v' mk' p' szB (cs ++ ll) τ' := by
  obtain ⟨⟨h1, h2, h3, g4, g5, g6⟩, k2⟩ := h
  refine ⟨⟨by rw [List.length_append, ← Nat.add_assoc]; exact hq, XK_t h2 xk g4 g5 g6, c, h4, by rw [List.length_append]; omega, h6⟩, fun i hi => ?_⟩
  rw [List.length_append] at hi
  rcases Nat.lt_or_ge i cs.length with w | w
  · have y := (xk.2.2.2.2.2.1 (szB + i) (by omega)).1
    rw [y, k2 i w, gd_l w]
  · have e := hl (i - cs.length) (by omega)
    rw [show szB + cs.length + (i - cs.length) = szB + i from by omega] at e
    rw [e]
    have g := gd_r (a := cs) (b := ll) (i - cs.length)
    rw [show cs.length + (i - cs.length) = i from by omega] at g
    exact g.symm
/-- looked up in the table: the newest that is to be seen -/
def LkI (tb : List Ent) (bs : List Int32) (i : Nat) : Prop := i < tb.length ∧ ((tb.getD i e0E).1 = bs ∧ (tb.getD i e0E).2.2.2.2 = false) ∧ ∀ j, i < j → j < tb.length → ¬ ((tb.getD j e0E).1 = bs ∧ (tb.getD j e0E).2.2.2.2 = false)
def LkN (tb : List Ent) (bs : List Int32) : Prop := ∀ j, j < tb.length → ¬ ((tb.getD j e0E).1 = bs ∧ (tb.getD j e0E).2.2.2.2 = false)
theorem c_found {bs : List Int32} (h : TbR b tb σ) (hb : L.2.2.1 0 = b) (hk : okN bs) (h1 : L.2.1 1 = kyH bs) (h3 : L.2.1 3 = kyL bs) : Tm (fun k => y_X7_found__P k 0 L σ) (fun r => r.2 = σ ∧ ((∃ i, r.1 = nI i ∧ LkI tb bs i) ∨ (r.1 = -1 ∧ LkN tb bs))) := by
  obtain ⟨t1, t2, t3⟩ := h
  refine Tm_mono (s_found t1 t2 L hb) (fun r z => ?_)
  have cis : ∀ j, j < tb.length → (cIs σ b (L.2.1 1) (L.2.1 3) j ↔ ((tb.getD j e0E).1 = bs ∧ (tb.getD j e0E).2.2.2.2 = false)) := fun j hj => by
    obtain ⟨w1, w2, w3, w4, w5, w6, w7⟩ := t3 j hj
    show (σ.2.2.2.1 (pR5 b) j = L.2.1 1 ∧ σ.2.2.2.1 (pR6 b) j = L.2.1 3 ∧ σ.2.2.1 (pR10 b) j = 0) ↔ _
    rw [w2, w3, w7, h1, h3]
    have ki := ky_inj w1 hk
    constructor
    · rintro ⟨y1, y2, y3⟩
      refine ⟨ki.1 ⟨y1, y2⟩, ?_⟩
      cases hc : (tb.getD j e0E).2.2.2.2 with
      | false => rfl
      | true => rw [hc, if_pos rfl] at y3; exact absurd y3 (by decide)
    · rintro ⟨y1, y2⟩
      obtain ⟨k1, k2⟩ := ki.2 y1
      refine ⟨k1, k2, ?_⟩
      rw [y2, if_neg (by decide)]
  obtain ⟨z1, z2⟩ := z
  refine ⟨z1, ?_⟩
  rcases z2 with ⟨i, y1, y2, y3, y4⟩ | ⟨y1, y2⟩
  · exact Or.inl ⟨i, y2, y1, (cis i y1).1 y3, fun j j1 j2 w => y4 j j1 j2 ((cis j j2).2 w)⟩
  · exact Or.inr ⟨y1, fun j hj w => y2 j hj ((cis j hj).2 w)⟩
/-- what an entry says, as the reference finds it -/
def EntR (E : En) (u : Nat) (gl : Nat × (Nat → Nat → Prop)) (Vm : Nat → Prop) (e : Ent) (bs : List Int32) : Prop := (e.2.1 ≤ 3 ∧ e.2.2.1 < 42) ∧ (e.2.1 = 0 → (fd E bs).1 = 1 ∧ (e.2.2.1 = u → e.2.2.2.1 < 200 ∧ Vm (500000 + e.2.2.2.1)) ∧ (¬ e.2.2.1 = u → e.2.2.2.1 < gl.1)) ∧ (e.2.1 = 3 → (fd E bs).1 = 1 ∧ e.2.2.1 = u ∧ e.2.2.2.1 < 180 ∧ Vm (bsl + 500000 + e.2.2.2.1)) ∧ (e.2.1 = 1 → (fd E bs).1 = 2 ∧ e.2.2.2.1 < 41 ∧ e.2.2.2.1 = (fd E bs).2.1 + 1 ∧ gl.2 e.2.2.2.1 (E.2.2.2.2.2.2 (fd E bs).2.1)) ∧ (e.2.1 = 2 → (fd E bs).1 = 3 ∧ e.2.2.2.1 < 41 ∧ e.2.2.2.1 = (fd E bs).2.1 + 1)
/-- names here and there -/
def NmR (E : En) (u : Nat) (gl : Nat × (Nat → Nat → Prop)) (Vm : Nat → Prop) (tb : List Ent) : Prop := gl.1 ≤ 1000 ∧ ∀ bs, okN bs → (∀ i, LkI tb bs i → EntR E u gl Vm (tb.getD i e0E) bs) ∧ (LkN tb bs → (fd E bs).1 = 0)
/-- params of funcs -/
def PrR (b : Bool) (gl : Nat × (Nat → Nat → Prop)) (σ : CS) : Prop := ∀ w np, gl.2 w np → w < 42 ∧ np ≤ 8 ∧ σ.2.2.1 (pR14 b) w = nI np
theorem PrR_k {mk' : Nat} {nc' sz' : Nat} (h : PrR b gl σ) (x : XK b u nc' sz' mk' σ σ') : PrR b gl σ' := fun w np z => by
  have y := h w np z
  refine ⟨y.1, y.2.1, ?_⟩
  have pc := pR_c b
  rw [x.2.1.1 (pR14 b) (by omega)]
  exact y.2.2
/-- what is around an exp -/
def EvX (E : En) (b : Bool) (u al : Nat) (gl : Nat × (Nat → Nat → Prop)) (Vm : Nat → Prop) (tb : List Ent) (σ : CS) : Prop := NmR E u gl Vm tb ∧ PrR b gl σ ∧ (al ≤ 2 ∧ u < 42) ∧ (E.2.2.2.2.1 = true ↔ al = 2) ∧ (E.2.2.2.2.2.1 = true ↔ 1 ≤ al)
/-- bounds: bytes, code, marks, names, slots of iters -/
def BdX (n o q v mk p sz nt : Nat) : Prop := n ≤ 10240 ∧ 2 * sz + 3 * (n - q) + 100 ≤ 73728 ∧ mk ≤ 2 * q + 18 * o ∧ nt + (60 - v) ≤ 256 ∧ p ≤ 3 * v
/-- behind an exp: as before, but further on; code for m values -/
def XSt (T : Nat → Int32) (n : Nat) (b : Bool) (u al : Nat) (gl : Nat × (Nat → Nat → Prop)) (Vm : Nat → Prop) (tb : List Ent) (o mk p sz q m : Nat) (t : Nat × Nat) (τ : CS) : Prop := ∃ cs : List Int32, QS T n b u al tb o t.1 t.2 mk p (sz + cs.length) τ ∧ (∀ i, i < cs.length → cdr b τ (sz + i) = cs.getD i 0) ∧ Sgm u p gl Vm m cs ∧ 2 * cs.length ≤ 3 * (t.1 - q) + 1 ∧ q < t.1
theorem c_takenName {bs : List Int32} (h : QS T n b u al tb o q v mk p sz τ) (hk : tkK T n q = 26) {x : Fl Nat} (hx : (tkK T n (tkN T n q) = 0 ∧ x = Sum.inl (1, tkN T n q)) ∨ (¬ tkK T n (tkN T n q) = 0 ∧ x = Sum.inr (tkN T n q))) : Tm (fun k => f_X5_takenName k 0 L τ) (QPo b u tb.length sz mk x (fun q' y τ' => QS T n b u al tb o q' v mk p sz τ' ∧ ((∃ i, y = nI i ∧ LkI tb (tkS T n q) i) ∨ (y = -1 ∧ LkN tb (tkS T n q)))) τ 0 0) := by
  have s0 := Sx_0 h
  obtain ⟨⟨k1, k2⟩, k3⟩ := h.1.2.2.2.2.2.2.2.2 hk
  refine Tm_suc (fun k => by rw [f_X5_takenName]) ?_
  refine st_adv (C := x = Sum.inr (tkN T n q)) s0 hx (fun τ' r er c s => ?_)
  rw [c, er]
  refine Tm_oP s.1.2.2.2.2.1.1 ?_
  refine Tm_op (c_found s.1.2.2.2.1 rfl k3 k1 k2) (fun q2 z => ?_)
  rw [z.1]
  exact Tm_some (Qfin s ⟨s.1, z.2⟩)
theorem c_pushQ (h : QS T n b u al tb o q v mk p sz τ) (hv : LitG (L.1 1)) (hm : sz + 2 ≤ 36864) : Tm (fun k => f_X5_push k 0 L τ) (QPo b u tb.length sz mk (Sum.inr () : Fl Unit) (fun _ _ τ' => ∃ cs : List Int32, cs.length = 2 ∧ QS T n b u al tb o q v mk p (sz + 2) τ' ∧ (∀ i, i < 2 → cdr b τ' (sz + i) = cs.getD i 0) ∧ cs = [em 32 0, L.1 1]) τ 0 0) := by
  have s0 := Sy_0 h
  refine Tm_suc (fun k => by rw [f_X5_push]) ?_
  refine Tm_oP (Sy_pp s0) ?_
  refine st_emit (op := 32) s0 rfl rfl (by show sz + 0 + 1 ≤ _; omega) (fun τ1 n1 n2 s1 => ?_)
  refine Tm_oP (Sy_pp s1) ?_
  refine st_word s1 rfl (by show sz + 1 + 1 ≤ _; omega) (fun τ2 m1 m2 s2 => ?_)
  exact Tm_some (Qfin s2.1 ⟨[em 32 0, L.1 1], rfl, s2.1.1, s2.2, rfl⟩)
end CVF
end JnS447
section JnS448
/-! The class: steps of its parser, as the grammar has them; parts. -/
section CVG
variable {σ σ' σ0 τ τ' : CS} {L : LV} {b : Bool} {T : Nat → Int32} {n q q' u al o v mk p sz szB nc0 sz0 mk0 a1 a2 m kk f e : Nat} {y : Int32} {l l' cs cs' : List Int32} {tb : List Ent} {α : Type} {x : Fl α} {S : α → Int32 → CS → Prop} {C : Prop} {E : En} {gl : Nat × (Nat → Nat → Prop)} {Vm : Nat → Prop} {bt : BT}
/-- a call within that lays no code -/
theorem Sy_c0 (h : Sy T n b u al σ0 nc0 sz0 mk0 a1 a2 tb o q v mk p szB cs τ) {n1 n2 : Nat} {o' v' mk' p' : Nat} {tb' : List Ent} (hq : QS T n b u al tb' o' q' v' mk' p' (szB + cs.length) τ') (xk : XK b u tb.length (szB + cs.length) mk τ τ') (c : a1 + n1 + PhC τ' ≤ PhC σ0 ∧ a2 + n2 + PhS τ' ≤ PhS σ0) (h4 : nc0 ≤ tb'.length) (h6 : mk0 ≤ mk') : Sy T n b u al σ0 nc0 sz0 mk0 (a1 + n1) (a2 + n2) tb' o' q' v' mk' p' szB cs τ' := by
  have z := Sy_ca (ll := []) h hq xk c (fun i hi => absurd hi (Nat.not_lt_zero _)) h4 h6
  rw [List.append_nil] at z
  exact z
theorem st_opens {f : Nat → RS → Option RS} (h : Sy T n b u al σ0 nc0 sz0 mk0 a1 a2 tb o q v mk p szB cs τ) (hx : (¬ (¬ o = 20 ∧ ¬ tkK T n (tkN T n q) = 0) ∧ x = Sum.inl (oF T n o q)) ∨ ((¬ o = 20 ∧ ¬ tkK T n (tkN T n q) = 0) ∧ C)) (cont : ∀ (τ' : CS) (ret : Int32) (n1 n2 : Nat), C → Sy T n b u al σ0 nc0 sz0 mk0 (a1 + n1) (a2 + n2) tb (o + 1) (tkN T n q) v mk p szB cs τ' → Tm (fun k => f k ((0, ret), τ', (n1, n2))) (QPo b u nc0 sz0 mk0 x S σ0 (a1 + n1) (a2 + n2))) : Tm (fun k => ox (f_X5_opens k 0 L τ) (f k)) (QPo b u nc0 sz0 mk0 x S σ0 a1 a2) := by
  rcases hx with ⟨w1, w2⟩ | ⟨w1, c⟩
  · exact st_call (C := True) h.1 (c_opensQ h.1.1 (Or.inl ⟨w1, rfl⟩)) (Or.inl ⟨_, rfl, w2⟩)
  · exact st_call (C := C) h.1 (c_opensQ h.1.1 (Or.inr ⟨w1, rfl⟩)) (Or.inr ⟨_, rfl, c, fun τ' ret n1 n2 hq xk hc => cont τ' ret n1 n2 c (Sy_c0 h hq xk hc h.1.2.2.2.1 h.1.2.2.2.2.2)⟩)
theorem st_closes {f : Nat → RS → Option RS} (h : Sy T n b u al σ0 nc0 sz0 mk0 a1 a2 tb (o + 1) q v mk p szB cs τ) (hk : tkV kk) (h1 : L.1 1 = cKd kk) (hx : (¬ (tkK T n q = kk ∧ ¬ tkK T n (tkN T n q) = 0) ∧ x = Sum.inl (wF T n kk q)) ∨ ((tkK T n q = kk ∧ ¬ tkK T n (tkN T n q) = 0) ∧ C)) (cont : ∀ (τ' : CS) (ret : Int32) (n1 n2 : Nat), C → Sy T n b u al σ0 nc0 sz0 mk0 (a1 + n1) (a2 + n2) tb o (tkN T n q) v mk p szB cs τ' → Tm (fun k => f k ((0, ret), τ', (n1, n2))) (QPo b u nc0 sz0 mk0 x S σ0 (a1 + n1) (a2 + n2))) : Tm (fun k => ox (f_X5_closes k 0 L τ) (f k)) (QPo b u nc0 sz0 mk0 x S σ0 a1 a2) := by
  rcases hx with ⟨w1, w2⟩ | ⟨w1, c⟩
  · exact st_call (C := True) h.1 (c_closesQ h.1.1 hk h1 (Or.inl ⟨w1, rfl⟩)) (Or.inl ⟨_, rfl, w2⟩)
  · exact st_call (C := C) h.1 (c_closesQ h.1.1 hk h1 (Or.inr ⟨w1, rfl⟩)) (Or.inr ⟨_, rfl, c, fun τ' ret n1 n2 hq xk hc => cont τ' ret n1 n2 c (Sy_c0 h hq xk hc h.1.2.2.2.1 h.1.2.2.2.2.2)⟩)
theorem st_expect {f : Nat → RS → Option RS} (h : Sy T n b u al σ0 nc0 sz0 mk0 a1 a2 tb o q v mk p szB cs τ) (hk : tkV kk) (h1 : L.1 1 = cKd kk) (hx : (¬ (tkK T n q = kk ∧ ¬ tkK T n (tkN T n q) = 0) ∧ x = Sum.inl (wF T n kk q)) ∨ ((tkK T n q = kk ∧ ¬ tkK T n (tkN T n q) = 0) ∧ C)) (cont : ∀ (τ' : CS) (ret : Int32) (n1 n2 : Nat), C → Sy T n b u al σ0 nc0 sz0 mk0 (a1 + n1) (a2 + n2) tb o (tkN T n q) v mk p szB cs τ' → Tm (fun k => f k ((0, ret), τ', (n1, n2))) (QPo b u nc0 sz0 mk0 x S σ0 (a1 + n1) (a2 + n2))) : Tm (fun k => ox (f_X5_expect k 0 L τ) (f k)) (QPo b u nc0 sz0 mk0 x S σ0 a1 a2) := by
  rcases hx with ⟨w1, w2⟩ | ⟨w1, c⟩
  · exact st_call (C := True) h.1 (c_expectQ h.1.1 hk h1 (Or.inl ⟨w1, rfl⟩)) (Or.inl ⟨_, rfl, w2⟩)
  · exact st_call (C := C) h.1 (c_expectQ h.1.1 hk h1 (Or.inr ⟨w1, rfl⟩)) (Or.inr ⟨_, rfl, c, fun τ' ret n1 n2 hq xk hc => cont τ' ret n1 n2 c (Sy_c0 h hq xk hc h.1.2.2.2.1 h.1.2.2.2.2.2)⟩)
theorem st_want {f : Nat → RS → Option RS} (h : Sy T n b u al σ0 nc0 sz0 mk0 a1 a2 tb o q v mk p szB cs τ) (hk : tkV kk) (h1 : L.1 1 = cKd kk) (hx : (¬ tkK T n q = kk ∧ x = Sum.inl (2, q)) ∨ (tkK T n q = kk ∧ C)) (cont : ∀ (τ' : CS) (ret : Int32) (n1 n2 : Nat), C → Sy T n b u al σ0 nc0 sz0 mk0 (a1 + n1) (a2 + n2) tb o q v mk p szB cs τ' → Tm (fun k => f k ((0, ret), τ', (n1, n2))) (QPo b u nc0 sz0 mk0 x S σ0 (a1 + n1) (a2 + n2))) : Tm (fun k => ox (f_X5_want k 0 L τ) (f k)) (QPo b u nc0 sz0 mk0 x S σ0 a1 a2) := by
  rcases hx with ⟨w1, w2⟩ | ⟨w1, c⟩
  · exact st_call (C := True) h.1 (c_wantQ h.1.1 hk h1 (Or.inl ⟨w1, rfl⟩)) (Or.inl ⟨_, rfl, w2⟩)
  · exact st_call (C := C) h.1 (c_wantQ h.1.1 hk h1 (Or.inr ⟨w1, rfl⟩)) (Or.inr ⟨_, rfl, c, fun τ' ret n1 n2 hq xk hc => cont τ' ret n1 n2 c (Sy_c0 h (by rw [hq]; exact h.1.1) xk hc h.1.2.2.2.1 h.1.2.2.2.2.2)⟩)
theorem st_advY {f : Nat → RS → Option RS} (h : Sy T n b u al σ0 nc0 sz0 mk0 a1 a2 tb o q v mk p szB cs τ) (hx : (tkK T n (tkN T n q) = 0 ∧ x = Sum.inl (1, tkN T n q)) ∨ (¬ tkK T n (tkN T n q) = 0 ∧ C)) (cont : ∀ (τ' : CS) (r : RS), r.2.1 = τ' → C → Sy T n b u al σ0 nc0 sz0 mk0 a1 a2 tb o (tkN T n q) v mk p szB cs τ' → Tm (fun k => f k r) (QPo b u nc0 sz0 mk0 x S σ0 a1 a2)) : Tm (fun k => ox (f_X2_advance k 0 L τ) (f k)) (QPo b u nc0 sz0 mk0 x S σ0 a1 a2) := by
  have hh := h
  obtain ⟨⟨h1, h2, h3, h4, h5, h6⟩, k2⟩ := h
  have t : Tm (fun k => f_X2_advance k 0 L τ) (fun r => QA T n b u al tb o (tkN T n q) v mk p (szB + cs.length) τ r ∧ (r.1.1 = 0 → r.2.2 = (0, 0) ∧ PhC r.2.1 = PhC τ ∧ PhS r.2.1 = PhS τ)) := by
    refine Tm_and (c_advQ h1) (Tm_mono (c_adv h1.1) (fun r z e => ?_))
    obtain ⟨z1, z2, kd, st, en, hi, lo, z3⟩ := z
    by_cases k0 : tkK T n (tkN T n q) = 0
    · rw [(z1 k0).1] at e
      exact absurd e (by decide)
    · refine ⟨(z2 k0).2.1, ?_⟩
      exact Ph_s (by rw [z3]; rfl)
  refine Tm_ox t (fun r w nz => ?_) (fun r w e0 => ?_)
  · obtain ⟨w, _⟩ := w
    rcases hx with ⟨e1, e2⟩ | ⟨e1, c⟩
    · rw [e2]
      exact Qthr hh.1 (w.1 e1) w.2.2.1 w.2.2.2
    · exact absurd (w.2.1 e1).1 nz
  · obtain ⟨w, wc⟩ := w
    rcases hx with ⟨e1, e2⟩ | ⟨e1, c⟩
    · exact absurd (w.1 e1).1 (by rw [e0]; decide)
    · obtain ⟨c1, c2, c3⟩ := wc e0
      have k := cont r.2.1 r rfl c (Sy_c0 (n1 := 0) (n2 := 0) hh (w.2.1 e1).2 w.2.2.2 ⟨by omega, by omega⟩ h4 h6)
      refine Tm_mono k (fun q z => ?_)
      rw [c1]
      exact QPo_s (n1 := 0) (n2 := 0) z
/-- parts behind a variable: their code, their kinds -/
def ptC : List (List Int32 × Nat) → List Int32
  | [] => []
  | z :: r => z.1 ++ (em z.2 0 :: ptC r)
def PtM (τ : CS) (mk st : Nat) : List (List Int32 × Nat) → Prop
  | [] => True
  | z :: r => (τ.2.2.1 41 mk = nI st ∧ τ.2.2.1 41 (mk + 1) = nI (st + z.1.length) ∧ τ.2.2.1 41 (mk + 2) = nI z.2) ∧ PtM τ (mk + 3) (st + z.1.length + 1) r
def PtG (u p : Nat) (gl : Nat × (Nat → Nat → Prop)) (Vm : Nat → Prop) : List (List Int32 × Nat) → Prop
  | [] => True
  | z :: r => ((z.2 = 96 ∧ Sgm u p gl Vm 1 z.1) ∨ (z.2 = 98 ∧ Sgm u p gl Vm 1 z.1) ∨ (z.2 = 97 ∧ Sgm u p gl Vm 2 z.1)) ∧ PtG u p gl Vm r
/-- whether the exp is a variable with its parts -/
def TgI (T : Nat → Int32) (n u p : Nat) (gl : Nat × (Nat → Nat → Prop)) (Vm : Nat → Prop) (tb : List Ent) (q sz mk : Nat) (cs : List Int32) (i : Nat) (τ : CS) : Prop := (i = 0 → ¬ τ.1 4016 = nI q) ∧ (¬ i = 0 → (τ.1 4016 = nI q ∧ τ.1 4017 = nI (sz + cs.length) ∧ τ.1 4018 = nI mk) ∧ ∃ (nm : Nat) (ld : Int32) (pl : List (List Int32 × Nat)), (τ.1 4020 = nI nm ∧ τ.1 4019 = nI pl.length) ∧ LkI tb (tkS T n q) nm ∧ cs = ld :: ptC pl ∧ PtM τ mk (sz + 1) pl ∧ PtG u p gl Vm pl ∧ mk + 3 * pl.length ≤ sN τ 41)
/-- behind an exp of the grammar -/
def XR (T : Nat → Int32) (n : Nat) (b : Bool) (u al : Nat) (gl : Nat × (Nat → Nat → Prop)) (Vm : Nat → Prop) (tb : List Ent) (o mk p sz q v : Nat) (r : RT) (τ : CS) : Prop := ∃ cs : List Int32, QS T n b u al tb o r.1 r.2.1 mk p (sz + cs.length) τ ∧ (∀ i, i < cs.length → cdr b τ (sz + i) = cs.getD i 0) ∧ Sgm u p gl Vm 1 cs ∧ 2 * cs.length ≤ 3 * (r.1 - q) + 1 ∧ q < r.1 ∧ v ≤ r.2.1 ∧ TgI T n u p gl Vm tb q sz mk cs r.2.2.1 τ
/-- exps of the grammar, read at depth e: whole ones, or sums -/
def PXp (T : Nat → Int32) (n : Nat) (b : Bool) (u al f e : Nat) : Prop := ∀ (nt ls : Nat), (nt = 0 ∧ ls = 0) ∨ (nt = 6 ∧ ls = 4) → ∀ (E : En) (o q v : Nat) (bt : BT) (x : Fl RT), G T n f nt E o q v 0 0 0 0 bt = some x → ∀ (gl : Nat × (Nat → Nat → Prop)) (Vm : Nat → Prop) (tb : List Ent) (mk p sz : Nat) (σ : CS) (L : LV), QS T n b u al tb o q v mk p sz σ → EvX E b u al gl Vm tb σ → BdX n o q v mk p sz tb.length → L.1 1 = nI ls → 6 * (20 - o) + 8 ≤ e → Tm (fun k => f_F2 k e 1 0 L σ) (QPo b u tb.length sz mk x (fun r _ τ => XR T n b u al gl Vm tb o mk p sz q v r τ) σ 0 0)
theorem EvX_k {nc' sz' mk' : Nat} (h : EvX E b u al gl Vm tb σ) (x : XK b u nc' sz' mk' σ τ) : EvX E b u al gl Vm tb τ := ⟨h.1, PrR_k h.2.1 x, h.2.2⟩
theorem Tm_d {g : Nat → Nat → Option RS} {Q : RS → Prop} {e : Nat} (h : Tm (fun k => g k e) Q) : Tm (fun k => of (e + 1) (g k)) Q := h
/-- an exp within -/
theorem st_exp {nt ls f e : Nat} {f' : Nat → RS → Option RS} {bt : BT} {z : Fl RT} (px : PXp T n b u al f e) (hn : (nt = 0 ∧ ls = 0) ∨ (nt = 6 ∧ ls = 4)) (h : Sy T n b u al σ0 nc0 sz0 mk0 a1 a2 tb o q v mk p szB cs τ) (ev : EvX E b u al gl Vm tb τ) (bd : BdX n o q v mk p (szB + cs.length) tb.length) (h1 : L.1 1 = nI ls) (hd : 6 * (20 - o) + 8 ≤ e) (hG : G T n f nt E o q v 0 0 0 0 bt = some z) (hx : (∃ y, z = Sum.inl y ∧ x = Sum.inl y) ∨ ∃ s, z = Sum.inr s ∧ C) (cont : ∀ (τ' : CS) (ret : Int32) (n1 n2 : Nat) (r : RT) (ll : List Int32), z = Sum.inr r → C → Sy T n b u al σ0 nc0 sz0 mk0 (a1 + n1) (a2 + n2) tb o r.1 r.2.1 mk p szB (cs ++ ll) τ' → XK b u tb.length (szB + cs.length) mk τ τ' → Sgm u p gl Vm 1 ll → 2 * ll.length ≤ 3 * (r.1 - q) + 1 → q < r.1 → v ≤ r.2.1 → TgI T n u p gl Vm tb q (szB + cs.length) mk ll r.2.2.1 τ' → Tm (fun k => f' k ((0, ret), τ', (n1, n2))) (QPo b u nc0 sz0 mk0 x S σ0 (a1 + n1) (a2 + n2))) : Tm (fun k => ox (f_F2 k e 1 0 L τ) (f' k)) (QPo b u nc0 sz0 mk0 x S σ0 a1 a2) := by
  refine st_call (C := C) h.1 (px nt ls hn E o q v bt z hG gl Vm tb mk p (szB + cs.length) τ L h.1.1 ev bd h1 hd) ?_
  rcases hx with ⟨y0, w1, w2⟩ | ⟨s, w1, c⟩
  · exact Or.inl ⟨y0, w1, w2⟩
  · refine Or.inr ⟨s, w1, c, fun τ' ret n1 n2 hr xk hc => ?_⟩
    obtain ⟨ll, r1, r2, r3, r4, r5, r6, r7⟩ := hr
    exact cont τ' ret n1 n2 s ll w1 c (Sy_ca h r1 xk hc r2 h.1.2.2.2.1 h.1.2.2.2.2.2) xk r3 r4 r5 r6 r7
/-- a part: the next token, variables, its kind, node, what is laid -/
def gPt (T : Nat → Int32) (n f : Nat) (E : En) (o q v e : Nat) (b : BT) : Option (Fl (Nat × Nat × Nat × Nat × BT)) :=
  if o = 20 then some (Sum.inl (3, q)) else pT T n q (fun q1 => pb (G T n f 0 E (o + 1) q1 v 0 0 0 0 b) (fun r =>
    if tkK T n q = 6 ∧ tkK T n r.1 = 16 then pT T n r.1 (fun q2 => pb (G T n f 0 E (o + 1) q2 r.2.1 0 0 0 0 r.2.2.2.2.1) (fun s => pW T n 7 s.1 (fun q3 => some (Sum.inr (q3, s.2.1, 97, s.2.2.2.2.1.1, bSet (bOver s.2.2.2.2.1 22 0 e (nI r.2.2.2.1)) 8 s.2.2.2.2.1.1 (nI s.2.2.2.1))))))
    else pW T n (if tkK T n q = 8 then 9 else 7) r.1 (fun q2 => some (Sum.inr (q2, r.2.1, (if tkK T n q = 8 then 98 else 96), r.2.2.2.2.1.1, bOver r.2.2.2.2.1 (if tkK T n q = 8 then 23 else 21) 0 e (nI r.2.2.2.1))))))
theorem G12_p {i e c g : Nat} (h : tkK T n q = 6 ∨ tkK T n q = 8) : G T n (f + 1) 12 E o q v i e c g bt = pb (gPt T n f E o q v e bt) (fun z => G T n f 12 E o z.1 z.2.1 (if i = 0 then 0 else 2) z.2.2.2.1 0 0 z.2.2.2.2) := by
  show (if tkK T n q = 6 ∨ tkK T n q = 8 then _ else _) = _
  rw [if_pos h]
  unfold gPt gO
  by_cases c1 : o = 20
  · rw [if_pos c1, if_pos c1]; rfl
  rw [if_neg c1, if_neg c1]
  unfold gT pT
  by_cases c2 : tkK T n (tkN T n q) = 0
  · rw [if_pos c2, if_pos c2]; rfl
  rw [if_neg c2, if_neg c2]
  show gb (G T n f 0 E (o + 1) (tkN T n q) v 0 0 0 0 bt) _ = pb (pb (G T n f 0 E (o + 1) (tkN T n q) v 0 0 0 0 bt) _) _
  generalize hg : G T n f 0 E (o + 1) (tkN T n q) v 0 0 0 0 bt = g1
  match g1 with
  | none => rfl
  | some (Sum.inl _) => rfl
  | some (Sum.inr r) =>
    show (if tkK T n q = 6 ∧ tkK T n r.1 = 16 then _ else _) = pb (if tkK T n q = 6 ∧ tkK T n r.1 = 16 then _ else _) _
    by_cases c3 : tkK T n q = 6 ∧ tkK T n r.1 = 16
    · rw [if_pos c3, if_pos c3]
      by_cases c4 : tkK T n (tkN T n r.1) = 0
      · rw [if_pos c4, if_pos c4]; rfl
      rw [if_neg c4, if_neg c4]
      show gb (G T n f 0 E (o + 1) (tkN T n r.1) r.2.1 0 0 0 0 r.2.2.2.2.1) _ = pb (pb (G T n f 0 E (o + 1) (tkN T n r.1) r.2.1 0 0 0 0 r.2.2.2.2.1) _) _
      generalize hg2 : G T n f 0 E (o + 1) (tkN T n r.1) r.2.1 0 0 0 0 r.2.2.2.2.1 = g2
      match g2 with
      | none => rfl
      | some (Sum.inl _) => rfl
      | some (Sum.inr s) =>
        show gW T n 7 s.1 _ = pb (pW T n 7 s.1 _) _
        unfold gW pW
        by_cases c5 : tkK T n s.1 = 7
        · rw [if_pos c5, if_pos c5]
          unfold gT pT
          by_cases c6 : tkK T n (tkN T n s.1) = 0
          · rw [if_pos c6, if_pos c6]; rfl
          · rw [if_neg c6, if_neg c6]; rfl
        · rw [if_neg c5, if_neg c5]; rfl
    · rw [if_neg c3, if_neg c3]
      unfold gW pW
      by_cases c5 : tkK T n r.1 = (if tkK T n q = 8 then 9 else 7)
      · rw [if_pos c5, if_pos c5]
        unfold gT pT
        by_cases c6 : tkK T n (tkN T n r.1) = 0
        · rw [if_pos c6, if_pos c6]; rfl
        · rw [if_neg c6, if_neg c6]; rfl
      · rw [if_neg c5, if_neg c5]; rfl
end CVG
end JnS448
section JnS449
/-! The class: parts and rows of exps are read. -/
section CVH
variable {σ σ' σ0 τ τ' : CS} {L : LV} {b : Bool} {T : Nat → Int32} {n q q' u al o v mk p sz szB nc0 sz0 mk0 a1 a2 m kk f e : Nat} {y : Int32} {l l' cs cs' : List Int32} {tb : List Ent} {α : Type} {S : α → Int32 → CS → Prop} {C : Prop} {E : En} {gl : Nat × (Nat → Nat → Prop)} {Vm : Nat → Prop} {bt : BT}
/-- the next token lies behind -/
theorem tk_go (h : QS T n b u al tb o q v mk p sz σ) : q ≤ n ∧ tkN T n q ≤ n ∧ (¬ tkK T n q = 25 → q < tkN T n q) := by
  have z := tkN_b T n q h.1.2.2.2.1
  exact ⟨h.1.2.2.2.1, z.2.1, z.2.2.2⟩
/-- the bounds go on: further in the text -/
theorem BdX_g {o' q' v' sz' : Nat} {nt : Nat} (h : BdX n o q v mk p sz nt) (h1 : q ≤ q') (h2 : q' ≤ n) (h3 : o ≤ o') (h4 : v ≤ v') (h5 : 2 * sz' + 3 * (n - q') ≤ 2 * sz + 3 * (n - q)) : BdX n o' q' v' mk p sz' nt := by
  obtain ⟨b1, b2, b3, b4, b5⟩ := h
  exact ⟨b1, by omega, by omega, by omega, by omega⟩
/-- behind a part -/
def PtR (T : Nat → Int32) (n : Nat) (b : Bool) (u al : Nat) (gl : Nat × (Nat → Nat → Prop)) (Vm : Nat → Prop) (tb : List Ent) (o mk p sz q v : Nat) (z : Nat × Nat × Nat × Nat × BT) (y : Int32) (τ : CS) : Prop := y = nI z.2.2.1 ∧ ∃ cs : List Int32, QS T n b u al tb o z.1 z.2.1 mk p (sz + cs.length) τ ∧ (∀ i, i < cs.length → cdr b τ (sz + i) = cs.getD i 0) ∧ ((z.2.2.1 = 96 ∧ Sgm u p gl Vm 1 cs) ∨ (z.2.2.1 = 98 ∧ Sgm u p gl Vm 1 cs) ∨ (z.2.2.1 = 97 ∧ Sgm u p gl Vm 2 cs)) ∧ 2 * cs.length + 2 ≤ 3 * (z.1 - q) ∧ q < z.1 ∧ v ≤ z.2.1
theorem pt_0 (k d : Nat) (L : LV) (σ : CS) : f_F2 (k + 1) d 9 0 L σ = (if ((σ.1 3702)) = 12 then (ox (f_X5_opens k 0 lZ σ) (fun r2 => of d (fun e3 => ox (f_F2 k e3 1 0 (lI lZ 1 0) r2.2.1) (fun r3 => ox (f_X5_closes k 0 (lI lZ 1 13) r3.2.1) (fun r4 => some ((0, 98), r4.2.1, (0, 0))))))) else (f_F2 k d 9 1 (lI L 1 96) σ)) := rfl
theorem pt_1 (k d : Nat) (L : LV) (σ : CS) : f_F2 (k + 1) d 9 1 L σ = (ox (f_X5_opens k 0 lZ σ) (fun r1 => of d (fun e2 => ox (f_F2 k e2 1 0 (lI lZ 1 0) r1.2.1) (fun r2 => if ((r2.2.1.1 3702)) = 28 then (ox (f_X2_advance k 0 lZ r2.2.1) (fun r4 => of d (fun e5 => ox (f_F2 k e5 1 0 (lI lZ 1 0) r4.2.1) (fun r5 => f_F2 k d 9 2 (lI L 1 97) r5.2.1)))) else (f_F2 k d 9 2 L r2.2.1))))) := rfl
theorem pt_2 (k d : Nat) (L : LV) (σ : CS) : f_F2 (k + 1) d 9 2 L σ = (ox (f_X5_closes k 0 (lI lZ 1 11) σ) (fun r1 => some ((0, (L.1 1)), r1.2.1, (0, 0)))) := rfl
theorem c_partQ {e0 : Nat} {x : Fl (Nat × Nat × Nat × Nat × BT)} (px : PXp T n b u al f e) (h : QS T n b u al tb o q v mk p sz σ) (ev : EvX E b u al gl Vm tb σ) (bd : BdX n o q v mk p sz tb.length) (hk : tkK T n q = 6 ∨ tkK T n q = 8) (hG : gPt T n f E o q v e0 bt = some x) (hd : ¬ o = 20 → 6 * (20 - (o + 1)) + 8 ≤ e) : Tm (fun k => f_F2 k (e + 1) 9 0 L σ) (QPo b u tb.length sz mk x (PtR T n b u al gl Vm tb o mk p sz q v) σ 0 0) := by
  have s0 := Sy_0 h
  have go := tk_go h
  have g1 := go.2.2 (by omega)
  have hop : (¬ (¬ o = 20 ∧ ¬ tkK T n (tkN T n q) = 0) ∧ x = Sum.inl (oF T n o q)) ∨ ((¬ o = 20 ∧ ¬ tkK T n (tkN T n q) = 0) ∧ pb (G T n f 0 E (o + 1) (tkN T n q) v 0 0 0 0 bt) (fun r =>
    if tkK T n q = 6 ∧ tkK T n r.1 = 16 then pT T n r.1 (fun q2 => pb (G T n f 0 E (o + 1) q2 r.2.1 0 0 0 0 r.2.2.2.2.1) (fun s => pW T n 7 s.1 (fun q3 => some (Sum.inr (q3, s.2.1, 97, s.2.2.2.2.1.1, bSet (bOver s.2.2.2.2.1 22 0 e0 (nI r.2.2.2.1)) 8 s.2.2.2.2.1.1 (nI s.2.2.2.1))))))
    else pW T n (if tkK T n q = 8 then 9 else 7) r.1 (fun q2 => some (Sum.inr (q2, r.2.1, (if tkK T n q = 8 then 98 else 96), r.2.2.2.2.1.1, bOver r.2.2.2.2.1 (if tkK T n q = 8 then 23 else 21) 0 e0 (nI r.2.2.2.1))))) = some x) := by
    unfold gPt at hG
    by_cases c1 : o = 20
    · rw [if_pos c1] at hG
      exact Or.inl ⟨fun z => z.1 c1, oF_a c1 (Option.some.inj hG).symm⟩
    · rw [if_neg c1] at hG
      rcases pT_any hG with ⟨w1, w2⟩ | ⟨w1, w2⟩
      · exact Or.inl ⟨fun z => z.2 w1, oF_b c1 w2⟩
      · exact Or.inr ⟨⟨c1, w1⟩, w2⟩
  by_cases k8 : tkK T n q = 8
  · refine Tm_suc (fun k => pt_0 k _ _ _) ?_
    refine Tm_yes ((lx_k (kk := 8) h (by decide)).2 k8) ?_
    refine st_opens s0 hop (fun τ1 ret n1 n2 c1 s1 => ?_)
    refine Tm_d ?_
    have o20 : ¬ o = 20 := fun z => by
      have := s1.1.1.2.2.2.2.2.1.2
      omega
    rcases pb_any c1 with ⟨yf, w1, w2⟩ | ⟨r0, w1, w2⟩
    · exact st_exp (C := True) px (Or.inl ⟨rfl, rfl⟩) s1 (EvX_k ev s1.1.2.1) (BdX_g bd (by omega) go.2.1 (by omega) (Nat.le_refl _) (by show 2 * (sz + 0) + _ ≤ _; omega)) rfl (hd o20) w1 (Or.inl ⟨_, rfl, w2⟩) (fun _ _ _ _ _ _ z => by cases z)
    · refine st_exp (C := True) px (Or.inl ⟨rfl, rfl⟩) s1 (EvX_k ev s1.1.2.1) (BdX_g bd (by omega) go.2.1 (by omega) (Nat.le_refl _) (by show 2 * (sz + 0) + _ ≤ _; omega)) rfl (hd o20) w1 (Or.inr ⟨r0, rfl, trivial⟩) (fun τ2 ret2 m1 m2 r ll hz _ s2 xk sg ln lt lv tg => ?_)
      cases hz
      rw [if_neg (fun z => by omega), if_pos k8] at w2
      have go2 := tk_go s2.1.1
      have y9 := pW_any w2
      refine st_closes (kk := 9) s2 (by decide) rfl y9 (fun τ3 ret3 l1 l2 c3 s3 => ?_)
      rw [if_pos k8] at c3
      cases c3
      have k9 : tkK T n r0.1 = 9 := by
        rcases y9 with ⟨y1, y2⟩ | ⟨y1, _⟩
        · cases y2
        · exact y1.1
      have g3 := go2.2.2 (by omega)
      refine Tm_some (Qfin s3.1 ⟨rfl, ll, s3.1.1, s3.2, Or.inr (Or.inl ⟨rfl, sg⟩), ?_, ?_, lv⟩)
      · show 2 * ll.length + 2 ≤ 3 * (tkN T n r0.1 - q)
        omega
      · show q < tkN T n r0.1
        omega
  · have k6 : tkK T n q = 6 := by omega
    have b2 : ∀ (L' : LV) (τ' : CS) (a1 a2 kd : Nat) (ll : List Int32) (q2 v2 : Nat) (w : Nat × BT), L'.1 1 = nI kd → Sy T n b u al σ tb.length sz mk a1 a2 tb (o + 1) q2 v2 mk p sz ll τ' → ((kd = 96 ∧ Sgm u p gl Vm 1 ll) ∨ (kd = 97 ∧ Sgm u p gl Vm 2 ll)) → pW T n 7 q2 (fun q3 => some (Sum.inr (q3, v2, kd, w))) = some x → 2 * ll.length ≤ 3 * (q2 - q) → q < q2 → v ≤ v2 → Tm (fun k => f_F2 k (e + 1) 9 2 L' τ') (QPo b u tb.length sz mk x (PtR T n b u al gl Vm tb o mk p sz q v) σ a1 a2) := by
      intro L' τ' a1 a2 kd ll q2 v2 w l1 s2 sg hw ln lt lv
      have go2 := tk_go s2.1.1
      have y9 := pW_any hw
      refine Tm_suc (fun k => pt_2 k _ _ _) ?_
      refine st_closes (kk := 7) s2 (by decide) rfl y9 (fun τ3 ret3 l1' l2 c3 s3 => ?_)
      have k7 : tkK T n q2 = 7 := by
        rcases y9 with ⟨y1, y2⟩ | ⟨y1, _⟩
        · rw [y2] at c3; cases c3
        · exact y1.1
      cases c3
      have g3 := go2.2.2 (by omega)
      refine Tm_some (Qfin s3.1 ⟨l1, ll, s3.1.1, s3.2, ?_, ?_, ?_, lv⟩)
      · rcases sg with ⟨z1, z2⟩ | ⟨z1, z2⟩
        · exact Or.inl ⟨z1, z2⟩
        · exact Or.inr (Or.inr ⟨z1, z2⟩)
      · show 2 * ll.length + 2 ≤ 3 * (tkN T n q2 - q)
        omega
      · show q < tkN T n q2
        omega
    refine Tm_suc (fun k => pt_0 k _ _ _) ?_
    refine Tm_no (fun z => k8 ((lx_k (kk := 8) h (by decide)).1 z)) ?_
    refine Tm_suc (fun k => pt_1 k _ _ _) ?_
    refine st_opens s0 hop (fun τ1 ret n1 n2 c1 s1 => ?_)
    refine Tm_d ?_
    have o20 : ¬ o = 20 := fun z => by
      have := s1.1.1.2.2.2.2.2.1.2
      omega
    rcases pb_any c1 with ⟨yf, w1, w2⟩ | ⟨r0, w1, w2⟩
    · exact st_exp (C := True) px (Or.inl ⟨rfl, rfl⟩) s1 (EvX_k ev s1.1.2.1) (BdX_g bd (by omega) go.2.1 (by omega) (Nat.le_refl _) (by show 2 * (sz + 0) + _ ≤ _; omega)) rfl (hd o20) w1 (Or.inl ⟨_, rfl, w2⟩) (fun _ _ _ _ _ _ z => by cases z)
    · refine st_exp (C := True) px (Or.inl ⟨rfl, rfl⟩) s1 (EvX_k ev s1.1.2.1) (BdX_g bd (by omega) go.2.1 (by omega) (Nat.le_refl _) (by show 2 * (sz + 0) + _ ≤ _; omega)) rfl (hd o20) w1 (Or.inr ⟨r0, rfl, trivial⟩) (fun τ2 ret2 m1 m2 r ll hz _ s2 xk sg ln lt lv tg => ?_)
      cases hz
      have go2 := tk_go s2.1.1
      have s2' : Sy T n b u al σ tb.length sz mk (0 + n1 + m1) (0 + n2 + m2) tb (o + 1) r0.1 r0.2.1 mk p sz ll τ2 := s2
      by_cases k16 : tkK T n r0.1 = 16
      · rw [if_pos ⟨k6, k16⟩] at w2
        refine Tm_yes ((lx_k (kk := 16) s2.1.1 (by decide)).2 k16) ?_
        refine st_advY s2' (pT_any w2) (fun τ3 r3 er c3 s3 => ?_)
        refine Tm_d ?_
        rw [er]
        have g2 := go2.2.2 (by omega)
        have bd3 : BdX n (o + 1) (tkN T n r0.1) r0.2.1 mk p (sz + ll.length) tb.length := BdX_g bd (by omega) go2.2.1 (by omega) lv (by omega)
        rcases pb_any c3 with ⟨yf, y1, y2⟩ | ⟨r4, y1, y2⟩
        · exact st_exp (C := True) px (Or.inl ⟨rfl, rfl⟩) s3 (EvX_k ev s3.1.2.1) bd3 rfl (hd o20) y1 (Or.inl ⟨_, rfl, y2⟩) (fun _ _ _ _ _ _ z => by cases z)
        · refine st_exp (C := True) px (Or.inl ⟨rfl, rfl⟩) s3 (EvX_k ev s3.1.2.1) bd3 rfl (hd o20) y1 (Or.inr ⟨r4, rfl, trivial⟩) (fun τ5 ret5 p1 p2 r5 l5 hz5 _ s5 xk5 sg5 ln5 lt5 lv5 tg5 => ?_)
          cases hz5
          refine b2 _ τ5 _ _ 97 (ll ++ l5) r4.1 r4.2.1 _ rfl s5 (Or.inr ⟨rfl, Sgm_seq sg sg5⟩) y2 ?_ (by omega) (by omega)
          rw [List.length_append]
          omega
      · rw [if_neg (fun z => k16 z.2), if_neg k8, if_neg k8, if_neg k8] at w2
        refine Tm_no (fun z => k16 ((lx_k (kk := 16) s2.1.1 (by decide)).1 z)) ?_
        exact b2 _ τ2 _ _ 96 ll r0.1 r0.2.1 _ rfl s2' (Or.inl ⟨rfl, sg⟩) w2 (by omega) (by omega) lv
/-- behind a row of exps: how many -/
def EsR (T : Nat → Int32) (n : Nat) (b : Bool) (u al : Nat) (gl : Nat × (Nat → Nat → Prop)) (Vm : Nat → Prop) (tb : List Ent) (o mk p sz q v : Nat) (r : RT) (y : Int32) (τ : CS) : Prop := y = nI r.2.2.1 ∧ ∃ cs : List Int32, QS T n b u al tb o r.1 r.2.1 mk p (sz + cs.length) τ ∧ (∀ i, i < cs.length → cdr b τ (sz + i) = cs.getD i 0) ∧ Sgm u p gl Vm r.2.2.1 cs ∧ 2 * cs.length ≤ 3 * (r.1 - q) + 1 ∧ q < r.1 ∧ v ≤ r.2.1
theorem es_0 (k d : Nat) (L : LV) (σ : CS) : f_F2 (k + 1) d 2 0 L σ = (of d (fun e1 => ox (f_F2 k e1 1 0 (lI lZ 1 0) σ) (fun r1 => f_F2 k d 2 1 (lI (lI L 1 1) 2 0) r1.2.1))) := rfl
theorem es_1 (k d : Nat) (L : LV) (σ : CS) : f_F2 (k + 1) d 2 1 L σ = (if 32768 < ((L.1 2)) then (f_F2 k d 2 2 L σ) else (if ((σ.1 3702)) = 16 then (ox (f_X2_advance k 0 lZ σ) (fun r3 => of d (fun e4 => ox (f_F2 k e4 1 0 (lI lZ 1 0) r3.2.1) (fun r4 => f_F2 k d 2 1 (lI (lI L 1 ((((L.1 1)) + 1))) 2 ((((L.1 2)) + 1))) r4.2.1)))) else (f_F2 k d 2 2 L σ))) := rfl
theorem es_2 (k d : Nat) (L : LV) (σ : CS) : f_F2 (k + 1) d 2 2 L σ = (some ((0, (L.1 1)), σ, (0, 0))) := rfl
theorem c_exps {x : Fl RT} (px : ∀ f', f' ≤ f → PXp T n b u al f' e) (h : QS T n b u al tb o q v mk p sz σ) (ev : EvX E b u al gl Vm tb σ) (bd : BdX n o q v mk p sz tb.length) (hk : ¬ tkK T n q = 7) (hG : G T n (f + 1) 14 E o q v 0 0 0 0 bt = some x) (hd : 6 * (20 - o) + 8 ≤ e) : Tm (fun k => f_F2 k (e + 1) 2 0 L σ) (QPo b u tb.length sz mk x (EsR T n b u al gl Vm tb o mk p sz q v) σ 0 0) := by
  have s0 := Sy_0 h
  have go := tk_go h
  have n10 := bd.1
  have b1 : ∀ (f1 : Nat), f1 ≤ f → ∀ (L' : LV) (τ' : CS) (a1 a2 c q1 v1 i1 e1 : Nat) (bt1 : BT) (ll : List Int32), G T n f1 14 E o q1 v1 i1 e1 c 0 bt1 = some x → 1 ≤ c → c ≤ q1 → L'.1 1 = nI c → L'.1 2 = nI (c - 1) → Sy T n b u al σ tb.length sz mk a1 a2 tb o q1 v1 mk p sz ll τ' → Sgm u p gl Vm c ll → 2 * ll.length ≤ 3 * (q1 - q) + 1 → q < q1 → v ≤ v1 → Tm (fun k => f_F2 k (e + 1) 2 1 L' τ') (QPo b u tb.length sz mk x (EsR T n b u al gl Vm tb o mk p sz q v) σ a1 a2) := by
    intro f1
    induction f1 with
    | zero =>
      intro _ L' τ' a1 a2 c q1 v1 i1 e1 bt1 ll hg
      cases hg
    | succ f1 ih =>
      intro hf L' τ' a1 a2 c q1 v1 i1 e1 bt1 ll hg c1 cq l1 l2 s1 sg ln lt lv
      have go1 := tk_go s1.1.1
      have hg' : (if c = 0 then (if tkK T n q1 = 7 then some (Sum.inr (q1, v1, 0, 0, bt1, [])) else gb (G T n f1 0 E o q1 v1 0 0 0 0 bt1) (fun r => G T n f1 14 E o r.1 r.2.1 r.2.2.2.1 r.2.2.2.1 1 0 r.2.2.2.2.1)) else if tkK T n q1 = 12 then gT T n q1 (fun q2 => gb (G T n f1 0 E o q2 v1 0 0 0 0 bt1) (fun r => G T n f1 14 E o r.1 r.2.1 i1 r.2.2.2.1 (c + 1) 0 (bSet r.2.2.2.2.1 9 e1 (nI r.2.2.2.1)))) else some (Sum.inr (q1, v1, c, i1, bt1, []))) = some x := hg
      rw [if_neg (by omega)] at hg'
      refine Tm_suc (fun k => es_1 k _ _ _) ?_
      refine Tm_no ?_ ?_
      · rw [l2]
        show ¬ nI 32768 < nI (c - 1)
        rw [u_ltn (by decide) (by rw [u_n (by omega)]; omega), u_n (by decide), u_n (by omega)]
        omega
      by_cases k12 : tkK T n q1 = 12
      · rw [if_pos k12] at hg'
        have g2 := go1.2.2 (by omega)
        refine Tm_yes ((lx_k (kk := 12) s1.1.1 (by decide)).2 k12) ?_
        refine st_advY s1 (gT_any hg') (fun τ2 r2 er c2 s2 => ?_)
        refine Tm_d ?_
        rw [er]
        have bd2 : BdX n o (tkN T n q1) v1 mk p (sz + ll.length) tb.length := BdX_g bd (by omega) go1.2.1 (Nat.le_refl _) lv (by omega)
        rcases gb_any c2 with ⟨yf, y1, y2⟩ | ⟨r4, y1, y2⟩
        · exact st_exp (C := True) (px f1 (by omega)) (Or.inl ⟨rfl, rfl⟩) s2 (EvX_k ev s2.1.2.1) bd2 rfl hd y1 (Or.inl ⟨_, rfl, y2⟩) (fun _ _ _ _ _ _ z => by cases z)
        · refine st_exp (C := True) (px f1 (by omega)) (Or.inl ⟨rfl, rfl⟩) s2 (EvX_k ev s2.1.2.1) bd2 rfl hd y1 (Or.inr ⟨r4, rfl, trivial⟩) (fun τ5 ret5 p1 p2 r5 l5 hz5 _ s5 xk5 sg5 ln5 lt5 lv5 tg5 => ?_)
          cases hz5
          refine ih (by omega) _ τ5 _ _ (c + 1) r4.1 r4.2.1 _ _ _ (ll ++ l5) y2 (by omega) (by omega) ?_ ?_ s5 (Sgm_seq sg sg5) ?_ (by omega) (by omega)
          · show L'.1 1 + 1 = _
            rw [l1, n_add1]
          · show L'.1 2 + 1 = nI (c + 1 - 1)
            rw [l2, n_add1]
            exact congrArg nI (by omega)
          · rw [List.length_append]
            omega
      · rw [if_neg k12] at hg'
        refine Tm_no (fun z => k12 ((lx_k (kk := 12) s1.1.1 (by decide)).1 z)) ?_
        refine Tm_suc (fun k => es_2 k _ _ _) ?_
        cases hg'
        exact Tm_some (Qfin s1.1 ⟨l1, ll, s1.1.1, s1.2, sg, ln, lt, lv⟩)
  have hg' : (if (0 : Nat) = 0 then (if tkK T n q = 7 then some (Sum.inr (q, v, 0, 0, bt, [])) else gb (G T n f 0 E o q v 0 0 0 0 bt) (fun r => G T n f 14 E o r.1 r.2.1 r.2.2.2.1 r.2.2.2.1 1 0 r.2.2.2.2.1)) else if tkK T n q = 12 then gT T n q (fun q2 => gb (G T n f 0 E o q2 v 0 0 0 0 bt) (fun r => G T n f 14 E o r.1 r.2.1 0 r.2.2.2.1 (0 + 1) 0 (bSet r.2.2.2.2.1 9 0 (nI r.2.2.2.1)))) else some (Sum.inr (q, v, 0, 0, bt, []))) = some x := hG
  rw [if_pos rfl, if_neg hk] at hg'
  refine Tm_suc (fun k => es_0 k _ _ _) ?_
  refine Tm_d ?_
  rcases gb_any hg' with ⟨yf, y1, y2⟩ | ⟨r4, y1, y2⟩
  · exact st_exp (C := True) (px f (Nat.le_refl _)) (Or.inl ⟨rfl, rfl⟩) s0 ev (by show BdX n o q v mk p (sz + 0) tb.length; exact bd) rfl hd y1 (Or.inl ⟨_, rfl, y2⟩) (fun _ _ _ _ _ _ z => by cases z)
  · refine st_exp (C := True) (px f (Nat.le_refl _)) (Or.inl ⟨rfl, rfl⟩) s0 ev (by show BdX n o q v mk p (sz + 0) tb.length; exact bd) rfl hd y1 (Or.inr ⟨r4, rfl, trivial⟩) (fun τ5 ret5 p1 p2 r5 l5 hz5 _ s5 xk5 sg5 ln5 lt5 lv5 tg5 => ?_)
    cases hz5
    exact b1 f (Nat.le_refl _) _ τ5 _ _ 1 r4.1 r4.2.1 _ _ _ l5 y2 (by omega) (by omega) rfl rfl s5 sg5 ln5 lt5 lv5
end CVH
end JnS449
section JnS450
/-! The class: names and calls of funcs are read. -/
section CVI
variable {σ σ' σ0 τ τ' : CS} {L : LV} {b : Bool} {T : Nat → Int32} {n q q' u al o v mk p sz szB nc0 sz0 mk0 a1 a2 m kk f e : Nat} {y : Int32} {l l' cs cs' : List Int32} {tb : List Ent} {α : Type} {S : α → Int32 → CS → Prop} {C : Prop} {E : En} {gl : Nat × (Nat → Nat → Prop)} {Vm : Nat → Prop} {bt : BT}
/-- behind what an operand begins with: whether it is a variable -/
def PmR (T : Nat → Int32) (n : Nat) (b : Bool) (u al : Nat) (gl : Nat × (Nat → Nat → Prop)) (Vm : Nat → Prop) (tb : List Ent) (o mk p sz q v : Nat) (r : RT) (y : Int32) (τ : CS) : Prop := ∃ cs : List Int32, QS T n b u al tb o r.1 r.2.1 mk p (sz + cs.length) τ ∧ (∀ i, i < cs.length → cdr b τ (sz + i) = cs.getD i 0) ∧ Sgm u p gl Vm 1 cs ∧ 2 * cs.length ≤ 3 * (r.1 - q) + 1 ∧ q < r.1 ∧ v ≤ r.2.1 ∧ ((r.2.2.1 = 0 ∧ y = -1) ∨ (r.2.2.1 = 1 ∧ ∃ i ld, y = nI i ∧ LkI tb (tkS T n q) i ∧ cs = [ld]))
theorem fc_0 (k d : Nat) (L : LV) (σ : CS) : f_F2 (k + 1) d 4 0 L σ = (oP (sPp σ) (fun b1 => ox (f_X7_emit__P k 0 (lI (lI (lB lZ 0 b1) 1 16) 2 0) σ) (fun r2 => ox (f_X5_opens k 0 lZ r2.2.1) (fun r3 => if ((r3.2.1.1 3702)) = 11 then (f_F2 k d 4 2 (lI (lI L 2 ((r3.2.1.1 4005))) 100 0) r3.2.1) else (f_F2 k d 4 1 (lI L 2 ((r3.2.1.1 4005))) r3.2.1))))) := rfl
theorem fc_1 (k d : Nat) (L : LV) (σ : CS) : f_F2 (k + 1) d 4 1 L σ = (of d (fun e1 => ox (f_F2 k e1 2 0 lZ σ) (fun r1 => f_F2 k d 4 2 (lI L 100 r1.1.2) r1.2.1))) := rfl
theorem fc_2 (k d : Nat) (L : LV) (σ : CS) : f_F2 (k + 1) d 4 2 L σ = (ox (f_X5_want k 0 (lI lZ 1 11) σ) (fun r1 => oP (sPp r1.2.1) (fun b2 => if ¬ (((L.1 1)) < 0 ∨ 42 ≤ ((L.1 1)).toNatClampNeg) then (if ((L.1 100)) = ((r1.2.1.2.2.1 (pR14 b2) ((L.1 1)).toNatClampNeg)) then (f_F2 k d 4 3 L r1.2.1) else (ox (f_X5_refuse k 0 (lI (lI lZ 1 6) 2 ((r1.2.1.1 3703))) r1.2.1) (fun r5 => f_F2 k d 4 3 L r5.2.1))) else none))) := rfl
theorem fc_3 (k d : Nat) (L : LV) (σ : CS) : f_F2 (k + 1) d 4 3 L σ = (ox (f_X5_closes k 0 (lI lZ 1 11) σ) (fun r1 => oP (sPp r1.2.1) (fun b2 => ox (f_X7_emit__P k 0 (lI (lI (lB lZ 0 b2) 1 17) 2 ((L.1 1))) r1.2.1) (fun r3 => oP (sPp r3.2.1) (fun b4 => oP (sPp r3.2.1) (fun b5 => ox (f_X7_word__P k 0 (lI (lB lZ 0 b4) 1 ((((L.1 2)) ||| ((((r3.2.1.1 (fP b5 19))) <<< ((8 : Int32) &&& 31)))))) r3.2.1) (fun r6 => some ((0, 0), r6.2.1, (0, 0))))))))) := rfl
theorem c_fcall {w np qn : Nat} {bt2 : RT → BT} {x : Fl RT} (px : ∀ f', f' ≤ f → PXp T n b u al f' e) (h : QS T n b u al tb o q v mk p sz σ) (ev : EvX E b u al gl Vm tb σ) (bd : BdX n o q v mk p sz tb.length) (hk : tkK T n q = 6) (hq : qn < q) (hw : gl.2 w np) (h1 : L.1 1 = nI w) (hG : gO o q (gT T n q (fun q2 => gb (G T n (f + 1) 14 E (o + 1) q2 v 0 0 0 0 bt) (fun r => if tkK T n r.1 = 7 ∧ r.2.2.1 = np then gT T n r.1 (fun q3 => some (Sum.inr (q3, r.2.1, 0, r.2.2.2.2.1.1, bt2 r, []))) else some (Sum.inl (if tkK T n r.1 = 7 then 6 else 2, r.1))))) = some x) (hd : ¬ o = 20 → 6 * (20 - (o + 1)) + 8 ≤ e) : Tm (fun k => f_F2 k (e + 2) 4 0 L σ) (QPo b u tb.length sz mk x (fun r _ τ => ∃ cs : List Int32, QS T n b u al tb o r.1 r.2.1 mk p (sz + cs.length) τ ∧ (∀ i, i < cs.length → cdr b τ (sz + i) = cs.getD i 0) ∧ Sgm u p gl Vm 1 cs ∧ 2 * cs.length ≤ 3 * (r.1 - qn) + 1 ∧ qn < r.1 ∧ v ≤ r.2.1 ∧ r.2.2.1 = 0) σ 0 0) := by
  have s0 := Sy_0 h
  have go := tk_go h
  have g1 := go.2.2 (by omega)
  obtain ⟨pr1, pr2, pr3⟩ := ev.2.1 w np hw
  have p180 : p ≤ 180 := by
    have := bd.2.2.2.2
    have := h.2.2.2.2.2.2.1.2
    omega
  have b22 := bd.2.1
  have hop : (¬ (¬ o = 20 ∧ ¬ tkK T n (tkN T n q) = 0) ∧ x = Sum.inl (oF T n o q)) ∨ ((¬ o = 20 ∧ ¬ tkK T n (tkN T n q) = 0) ∧ gb (G T n (f + 1) 14 E (o + 1) (tkN T n q) v 0 0 0 0 bt) (fun r => if tkK T n r.1 = 7 ∧ r.2.2.1 = np then gT T n r.1 (fun q3 => some (Sum.inr (q3, r.2.1, 0, r.2.2.2.2.1.1, bt2 r, []))) else some (Sum.inl (if tkK T n r.1 = 7 then 6 else 2, r.1))) = some x) := by
    rcases gO_any hG with ⟨w1, w2⟩ | ⟨w1, w2⟩
    · exact Or.inl ⟨fun z => z.1 w1, oF_a w1 w2⟩
    · rcases gT_any w2 with ⟨w3, w4⟩ | ⟨w3, w4⟩
      · exact Or.inl ⟨fun z => z.2 w3, oF_b w1 w4⟩
      · exact Or.inr ⟨⟨w1, w3⟩, w4⟩
  -- from the ) on
  have b2 : ∀ (L' : LV) (τ' : CS) (a1 a2 : Nat) (as : List Int32) (r : RT), L'.1 1 = nI w → L'.1 2 = nI (o + 1) → L'.1 100 = nI r.2.2.1 → ¬ o = 20 → Sy T n b u al σ tb.length sz mk a1 a2 tb (o + 1) r.1 r.2.1 mk p sz (em 16 0 :: as) τ' → Sgm u p gl Vm r.2.2.1 as → r.2.2.1 ≤ 20000 → 2 * as.length ≤ 3 * (r.1 - tkN T n q) + 1 → tkN T n q ≤ r.1 → v ≤ r.2.1 → (if tkK T n r.1 = 7 ∧ r.2.2.1 = np then gT T n r.1 (fun q3 => some (Sum.inr (q3, r.2.1, 0, r.2.2.2.2.1.1, bt2 r, []))) else some (Sum.inl (if tkK T n r.1 = 7 then 6 else 2, r.1))) = some x → Tm (fun k => f_F2 k (e + 2) 4 2 L' τ') (QPo b u tb.length sz mk x (fun r _ τ => ∃ cs : List Int32, QS T n b u al tb o r.1 r.2.1 mk p (sz + cs.length) τ ∧ (∀ i, i < cs.length → cdr b τ (sz + i) = cs.getD i 0) ∧ Sgm u p gl Vm 1 cs ∧ 2 * cs.length ≤ 3 * (r.1 - qn) + 1 ∧ qn < r.1 ∧ v ≤ r.2.1 ∧ r.2.2.1 = 0) σ a1 a2) := by
    intro L' τ' a1 a2 as r l1 l2 l100 o20 s2 sg rb ln le lv hg
    have go2 := tk_go s2.1.1
    by_cases k7 : tkK T n r.1 = 7
    · refine Tm_suc (fun k => fc_2 k _ _ _) ?_
      refine st_want (kk := 7) (C := True) s2 (by decide) rfl (Or.inr ⟨k7, trivial⟩) (fun τ3 ret3 m1 m2 _ s3 => ?_)
      refine Tm_oP (Sy_pp s3) ?_
      have pr3' : τ3.2.2.1 (pR14 b) w = nI np := (PrR_k ev.2.1 s3.1.2.1 w np hw).2.2
      rw [l1]
      refine Tm_chk (u_in (by rw [u_n (by omega)]; omega) (by decide)) ?_
      rw [n_cl (by omega), pr3', l100]
      by_cases kn : r.2.2.1 = np
      · rw [if_pos ⟨k7, kn⟩] at hg
        refine Tm_yes (by rw [kn]) ?_
        refine Tm_suc (fun k => fc_3 k _ _ _) ?_
        refine st_closes (kk := 7) s3 (by decide) rfl (C := x = Sum.inr (tkN T n r.1, r.2.1, 0, r.2.2.2.2.1.1, bt2 r, [])) ?_ (fun τ4 ret4 p1 p2 c4 s4 => ?_)
        · rcases gT_any hg with ⟨w3, w4⟩ | ⟨w3, w4⟩
          · exact Or.inl ⟨fun z => z.2 w3, wF_a k7 w4⟩
          · exact Or.inr ⟨⟨k7, w3⟩, (Option.some.inj w4).symm⟩
        · have g3 := go2.2.2 (by omega)
          have el : (em 16 0 :: as).length = as.length + 1 := rfl
          refine Tm_oP (Sy_pp s4) ?_
          refine st_emit (op := 17) s4 rfl rfl (by rw [el]; omega) (fun τ5 x1 x2 s5 => ?_)
          refine Tm_oP (Sy_pp s5) ?_
          refine Tm_oP (Sy_pp s5) ?_
          refine st_word s5 rfl (by rw [List.length_append, el]; show sz + (as.length + 1 + 1) + 1 ≤ _; omega) (fun τ6 y1 y2 s6 => ?_)
          have wq : L'.1 2 ||| (τ5.1 (fP b 19) <<< ((8 : Int32) &&& 31)) = em (o + 1) (nI p) := by
            rw [l2, s5.1.1.2.2.2.2.2.2.2]; rfl
          have ecs : em 16 0 :: as ++ [em 17 (L'.1 1)] ++ [L'.1 2 ||| (τ5.1 (fP b 19) <<< ((8 : Int32) &&& 31))] = em 16 0 :: (as ++ [em 17 (nI w), em (o + 1) (nI p)]) := by
            rw [wq, l1, List.append_assoc]; rfl
          have s6' : Sy T n b u al σ tb.length sz mk (a1 + m1 + p1 + x1 + y1) (a2 + m2 + p2 + x2 + y2) tb o (tkN T n r.1) r.2.1 mk p sz (em 16 0 :: (as ++ [em 17 (nI w), em (o + 1) (nI p)])) τ6 := by
            rw [← ecs]; exact s6
          rw [c4]
          have lc : (em 16 0 :: (as ++ [em 17 (nI w), em (o + 1) (nI p)])).length = as.length + 3 := by rw [List.length_cons, List.length_append]; rfl
          have o19 := s4.1.1.2.2.2.2.2.1.2
          refine Tm_some (Qfin s6'.1 ⟨_, s6'.1.1, s6'.2, Sgm_ca hw (by omega) (kn ▸ sg), ?_, ?_, lv, rfl⟩)
          · rw [lc]
            show 2 * (as.length + 3) ≤ 3 * (tkN T n r.1 - qn) + 1
            omega
          · show qn < tkN T n r.1
            omega
      · rw [if_neg (fun z => kn z.2)] at hg
        refine Tm_no (by rw [n_eq (by omega) (by omega)]; exact kn) ?_
        rw [← Option.some.inj hg, if_pos k7]
        exact st_ref s3.1 rfl (lx_3 s3.1.1) (by decide)
    · rw [if_neg (fun z => k7 z.1)] at hg
      refine Tm_suc (fun k => fc_2 k _ _ _) ?_
      exact st_want (kk := 7) (C := False) s2 (by decide) rfl (Or.inl ⟨k7, (Option.some.inj hg).symm.trans (by rw [if_neg k7])⟩) (fun _ _ _ _ c _ => c.elim)
  refine Tm_suc (fun k => fc_0 k _ _ _) ?_
  refine Tm_oP (Sy_pp s0) ?_
  refine st_emit (op := 16) s0 rfl rfl (by show sz + 0 + 1 ≤ _; omega) (fun τ1 n1 n2 s1 => ?_)
  refine st_opens s1 hop (fun τ2 ret m1 m2 c2 s2 => ?_)
  have o20 : ¬ o = 20 := fun z => by
    have := s2.1.1.2.2.2.2.2.1.2
    omega
  have e05 : τ2.1 4005 = nI (o + 1) := s2.1.1.2.2.2.2.2.1.1
  have s2' : Sy T n b u al σ tb.length sz mk (0 + n1 + m1) (0 + n2 + m2) tb (o + 1) (tkN T n q) v mk p sz [em 16 0] τ2 := s2
  by_cases k7 : tkK T n (tkN T n q) = 7
  · refine Tm_yes ((lx_k (kk := 7) s2.1.1 (by decide)).2 k7) ?_
    have g14 : G T n (f + 1) 14 E (o + 1) (tkN T n q) v 0 0 0 0 bt = some (Sum.inr (tkN T n q, v, 0, 0, bt, [])) := by
      have z : G T n (f + 1) 14 E (o + 1) (tkN T n q) v 0 0 0 0 bt = (if (0 : Nat) = 0 then (if tkK T n (tkN T n q) = 7 then some (Sum.inr (tkN T n q, v, 0, 0, bt, [])) else gb (G T n f 0 E (o + 1) (tkN T n q) v 0 0 0 0 bt) (fun r => G T n f 14 E (o + 1) r.1 r.2.1 r.2.2.2.1 r.2.2.2.1 1 0 r.2.2.2.2.1)) else if tkK T n (tkN T n q) = 12 then gT T n (tkN T n q) (fun q2 => gb (G T n f 0 E (o + 1) q2 v 0 0 0 0 bt) (fun r => G T n f 14 E (o + 1) r.1 r.2.1 0 r.2.2.2.1 (0 + 1) 0 (bSet r.2.2.2.2.1 9 0 (nI r.2.2.2.1)))) else some (Sum.inr (tkN T n q, v, 0, 0, bt, []))) := rfl
      rw [z, if_pos rfl, if_pos k7]
    rw [g14] at c2
    exact b2 _ τ2 _ _ [] (tkN T n q, v, 0, 0, bt, []) h1 e05 rfl o20 s2' (Sgm_nil u p gl Vm) (by show 0 ≤ _; omega) (by show 2 * 0 ≤ _; omega) (Nat.le_refl _) (Nat.le_refl _) c2
  · refine Tm_no (fun z => k7 ((lx_k (kk := 7) s2.1.1 (by decide)).1 z)) ?_
    refine Tm_suc (fun k => fc_1 k _ _ _) ?_
    refine Tm_d ?_
    have bd2 : BdX n (o + 1) (tkN T n q) v mk p (sz + 1) tb.length := by
      refine BdX_g bd (by omega) go.2.1 (by omega) (Nat.le_refl _) (by omega)
    have gg : ∃ z, G T n (f + 1) 14 E (o + 1) (tkN T n q) v 0 0 0 0 bt = some z := by
      rcases gb_any c2 with ⟨yf, y1, y2⟩ | ⟨r4, y1, y2⟩
      · exact ⟨_, y1⟩
      · exact ⟨_, y1⟩
    obtain ⟨z, hz⟩ := gg
    refine st_call (C := True) s2'.1 (c_exps px s2'.1.1 (EvX_k ev s2'.1.2.1) bd2 k7 hz (hd o20)) ?_
    rcases gb_any c2 with ⟨yf, y1, y2⟩ | ⟨r4, y1, y2⟩
    · rw [hz] at y1
      exact Or.inl ⟨_, Option.some.inj y1, y2⟩
    · rw [hz] at y1
      refine Or.inr ⟨r4, Option.some.inj y1, trivial, fun τ3 ret3 p1 p2 hr xk hc => ?_⟩
      obtain ⟨er, ll, r1, r2, r3, r4', r5, r6⟩ := hr
      have s3 := Sy_ca s2' r1 xk hc r2 s2'.1.2.2.2.1 s2'.1.2.2.2.2.2
      refine b2 _ τ3 _ _ ll r4 h1 e05 er o20 s3 r3 ?_ r4' (by omega) r6 y2
      have := r3.1
      have := (tk_go r1).1
      have := bd.1
      omega
theorem nd_0 (k d : Nat) (L : LV) (σ : CS) : f_F2 (k + 1) d 7 0 L σ = (ox (f_X5_takenName k 0 lZ σ) (fun r1 => if r1.1.2 = ((-1)) then (f_F2 k d 7 2 (lI (lI (lI L 1 ((σ.1 3703))) 2 r1.1.2) 100 2) r1.2.1) else (f_F2 k d 7 1 (lI (lI L 1 ((σ.1 3703))) 2 r1.1.2) r1.2.1))) := rfl
theorem nd_1 (k d : Nat) (L : LV) (σ : CS) : f_F2 (k + 1) d 7 1 L σ = (oP (sPp σ) (fun b1 => if ¬ (((L.1 2)) < 0 ∨ 256 ≤ ((L.1 2)).toNatClampNeg) then (f_F2 k d 7 2 (lI L 100 ((σ.2.2.1 (pR7 b1) ((L.1 2)).toNatClampNeg))) σ) else none)) := rfl
theorem nd_2 (k d : Nat) (L : LV) (σ : CS) : f_F2 (k + 1) d 7 2 L σ = (if ((L.1 100)) = 2 then (f_F2 k d 7 3 (lI L 3 ((L.1 100))) σ) else (if ((L.1 100)) = 1 then (if ((σ.1 3702)) = 10 then (f_F2 k d 7 4 (lI L 3 ((L.1 100))) σ) else (f_F2 k d 7 3 (lI L 3 ((L.1 100))) σ)) else (f_F2 k d 7 4 (lI L 3 ((L.1 100))) σ))) := rfl
theorem nd_3 (k d : Nat) (L : LV) (σ : CS) : f_F2 (k + 1) d 7 3 L σ = (ox (f_X5_refuse k 0 (lI (lI lZ 1 5) 2 ((L.1 1))) σ) (fun r1 => f_F2 k d 7 4 L r1.2.1)) := rfl
theorem nd_4 (k d : Nat) (L : LV) (σ : CS) : f_F2 (k + 1) d 7 4 L σ = (if ((L.1 3)) = 1 then (oP (sPp σ) (fun b2 => if ¬ (((L.1 2)) < 0 ∨ 256 ≤ ((L.1 2)).toNatClampNeg) then (of d (fun e4 => ox (f_F2 k e4 4 0 (lI lZ 1 ((σ.2.2.1 (pR9 b2) ((L.1 2)).toNatClampNeg))) σ) (fun r4 => some ((0, (-1)), r4.2.1, (0, 0))))) else none)) else (f_F2 k d 7 5 L σ)) := rfl
theorem nd_5 (k d : Nat) (L : LV) (σ : CS) : f_F2 (k + 1) d 7 5 L σ = (if ((L.1 3)) = 3 then (f_F2 k d 7 7 (lI L 100 41) σ) else (f_F2 k d 7 6 L σ)) := rfl
theorem nd_6 (k d : Nat) (L : LV) (σ : CS) : f_F2 (k + 1) d 7 6 L σ = (f_F2 k d 7 7 (lI L 100 35) σ) := rfl
theorem nd_7 (k d : Nat) (L : LV) (σ : CS) : f_F2 (k + 1) d 7 7 L σ = (oP (sPp σ) (fun b1 => oP (sPp σ) (fun b2 => if ¬ (((L.1 2)) < 0 ∨ 256 ≤ ((L.1 2)).toNatClampNeg) then (if ((σ.2.2.1 (pR8 b2) ((L.1 2)).toNatClampNeg)) = ((σ.1 4003)) then (f_F2 k d 7 9 (lB (lI L 100 ((L.1 100))) 101 b1) σ) else (f_F2 k d 7 8 (lB L 100 b1) σ)) else none))) := rfl
theorem nd_8 (k d : Nat) (L : LV) (σ : CS) : f_F2 (k + 1) d 7 8 L σ = (f_F2 k d 7 9 (lB (lI L 100 36) 101 ((L.2.2.1 100))) σ) := rfl
theorem nd_9 (k d : Nat) (L : LV) (σ : CS) : f_F2 (k + 1) d 7 9 L σ = (oP (sPp σ) (fun b1 => if ¬ (((L.1 2)) < 0 ∨ 256 ≤ ((L.1 2)).toNatClampNeg) then (ox (f_X7_emit__P k 0 (lI (lI (lB lZ 0 ((L.2.2.1 101))) 1 ((L.1 100))) 2 ((σ.2.2.1 (pR9 b1) ((L.1 2)).toNatClampNeg))) σ) (fun r3 => some ((0, (L.1 2)), r3.2.1, (0, 0)))) else none)) := rfl
/-- a name: a variable, or a func that is called -/
theorem c_named {bt1 : BT} {bt2 : RT → BT} {x : Fl RT} (px : ∀ f', f' ≤ f → PXp T n b u al f' e) (h : QS T n b u al tb o q v mk p sz σ) (ev : EvX E b u al gl Vm tb σ) (bd : BdX n o q v mk p sz tb.length) (hk : tkK T n q = 26) (hG : gT T n q (fun q1 => if (fd E (tkS T n q)).1 = 1 then some (Sum.inr (q1, v, 1, bt.1, bt1, [])) else if (fd E (tkS T n q)).1 = 2 ∧ tkK T n q1 = 6 then gO o q1 (gT T n q1 (fun q2 => gb (G T n (f + 1) 14 E (o + 1) q2 v 0 0 0 0 bt) (fun r => if tkK T n r.1 = 7 ∧ r.2.2.1 = E.2.2.2.2.2.2 (fd E (tkS T n q)).2.1 then gT T n r.1 (fun q3 => some (Sum.inr (q3, r.2.1, 0, r.2.2.2.2.1.1, bt2 r, []))) else some (Sum.inl (if tkK T n r.1 = 7 then 6 else 2, r.1))))) else some (Sum.inl (5, q))) = some x) (hd : ¬ o = 20 → 6 * (20 - (o + 1)) + 8 ≤ e) : Tm (fun k => f_F2 k (e + 3) 7 0 L σ) (QPo b u tb.length sz mk x (PmR T n b u al gl Vm tb o mk p sz q v) σ 0 0) := by
  have s0 := Sy_0 h
  have go := tk_go h
  have g1 := go.2.2 (by omega)
  have okn : okN (tkS T n q) := (h.1.2.2.2.2.2.2.2.2 hk).2
  obtain ⟨nr1, nr2⟩ := ev.1.2 (tkS T n q) okn
  have gl1 := ev.1.1
  have b22 := bd.2.1
  refine Tm_suc (fun k => nd_0 k _ _ _) ?_
  rcases gT_any hG with ⟨w1, w2⟩ | ⟨w1, w2⟩
  · refine st_call (C := True) s0.1 (c_takenName (bs := tkS T n q) s0.1.1 hk (Or.inl ⟨w1, rfl⟩)) (Or.inl ⟨_, rfl, w2⟩)
  refine st_call (C := True) s0.1 (c_takenName (bs := tkS T n q) s0.1.1 hk (Or.inr ⟨w1, rfl⟩)) (Or.inr ⟨_, rfl, trivial, fun τ1 ret n1 n2 hr xk hc => ?_⟩)
  obtain ⟨hr1, hr2⟩ := hr
  have s1 : Sy T n b u al σ tb.length sz mk (0 + n1) (0 + n2) tb o (tkN T n q) v mk p sz [] τ1 := Sy_c0 s0 hr1 xk hc (Nat.le_refl _) (Nat.le_refl _)
  -- what is refused
  have b3 : ∀ L' : LV, L'.1 1 = nI q → x = Sum.inl (5, q) → Tm (fun k => f_F2 k (e + 3) 7 3 L' τ1) (QPo b u tb.length sz mk x (PmR T n b u al gl Vm tb o mk p sz q v) σ (0 + n1) (0 + n2)) := by
    intro L' l1 hx
    refine Tm_suc (fun k => nd_3 k _ _ _) ?_
    rw [hx]
    exact st_ref s1.1 rfl l1 (by decide)
  rcases hr2 with ⟨i, e1, lk⟩ | ⟨e1, lk⟩
  · have i256 : i < 256 := by
      have := lk.1
      have := s1.1.1.2.2.2.1.2.1
      omega
    obtain ⟨en0, en1, en2, en3, en4⟩ := nr1 i lk
    obtain ⟨t1, t2, t3, t4, t5, t6, t7⟩ := s1.1.1.2.2.2.1.2.2 i lk.1
    have n1' : ¬ nI i = -1 := fun z => by
      have z' := congrArg uN z
      rw [u_n (by omega)] at z'
      have : uN (-1 : Int32) = 4294967295 := by decide
      omega
    have ii : ¬ (nI i < 0 ∨ 256 ≤ (nI i).toNatClampNeg) := u_in (by rw [u_n (by omega)]; exact i256) (by decide)
    have ci : (nI i).toNatClampNeg = i := n_cl (by omega)
    -- a variable
    have b9 : ∀ (L' : LV) (op : Nat), L'.1 2 = nI i → L'.1 100 = nI op → L'.2.2.1 101 = b → op < 256 → (fd E (tkS T n q)).1 = 1 → Sgm u p gl Vm 1 [em op (nI (tb.getD i e0E).2.2.2.1)] → Tm (fun k => f_F2 k (e + 3) 7 9 L' τ1) (QPo b u tb.length sz mk x (PmR T n b u al gl Vm tb o mk p sz q v) σ (0 + n1) (0 + n2)) := by
      intro L' op l2 l100 lb ho hf sg
      rw [if_pos hf] at w2
      refine Tm_suc (fun k => nd_9 k _ _ _) ?_
      refine Tm_oP (Sy_pp s1) ?_
      rw [l2]
      refine Tm_chk ii ?_
      rw [ci]
      refine st_emit (op := op) s1 lb l100 (by show sz + 0 + 1 ≤ _; omega) (fun τ2 m1 m2 s2 => ?_)
      have s2' : Sy T n b u al σ tb.length sz mk (0 + n1 + m1) (0 + n2 + m2) tb o (tkN T n q) v mk p sz [em op (nI (tb.getD i e0E).2.2.2.1)] τ2 := by
        have z : em op (τ1.2.2.1 (pR9 b) i) = em op (nI (tb.getD i e0E).2.2.2.1) := by rw [t6]
        rw [← z]
        exact s2
      rw [← Option.some.inj w2]
      refine Tm_some (Qfin s2'.1 ⟨_, s2'.1.1, s2'.2, sg, ?_, g1, Nat.le_refl _, Or.inr ⟨rfl, i, _, rfl, lk, rfl⟩⟩)
      show 2 * 1 ≤ 3 * (tkN T n q - q) + 1
      omega
    have b7 : ∀ (L' : LV), L'.1 2 = nI i → ((tb.getD i e0E).2.1 = 0 ∧ L'.1 100 = nI 35 ∨ (tb.getD i e0E).2.1 = 3 ∧ L'.1 100 = nI 41) → Tm (fun k => f_F2 k (e + 3) 7 7 L' τ1) (QPo b u tb.length sz mk x (PmR T n b u al gl Vm tb o mk p sz q v) σ (0 + n1) (0 + n2)) := by
      intro L' l2 hw
      refine Tm_suc (fun k => nd_7 k _ _ _) ?_
      refine Tm_oP (Sy_pp s1) (Tm_oP (Sy_pp s1) ?_)
      rw [l2]
      refine Tm_chk ii ?_
      rw [ci, t5, s1.1.1.2.2.2.2.1.2.1]
      have u42 : u < 42 := ev.2.2.1.2
      rcases hw with ⟨hw, l100⟩ | ⟨hw, l100⟩
      · obtain ⟨z1, z2, z3⟩ := en1 hw
        by_cases ow : (tb.getD i e0E).2.2.1 = u
        · obtain ⟨z4, z5⟩ := z2 ow
          refine Tm_yes (by rw [ow]) ?_
          exact b9 _ 35 l2 l100 rfl (by decide) z1 (Sgm_1 (Nat.le_refl _) (Nat.le_refl _) (It_ld (by rw [u_n (by omega)]; omega) (by rw [u_n (by omega)]; exact z5)))
        · have z4 := z3 ow
          refine Tm_no (fun z => ow ?_) ?_
          · rw [n_eq (by omega) (by omega)] at z; exact z
          · refine Tm_suc (fun k => nd_8 k _ _ _) ?_
            exact b9 _ 36 l2 rfl rfl (by decide) z1 (Sgm_1 (Nat.le_refl _) (Nat.le_refl _) (It_lg (by rw [u_n (by omega)]; exact z4) gl1))
      · obtain ⟨z1, z2, z3, z4⟩ := en2 hw
        refine Tm_yes (by rw [z2]) ?_
        exact b9 _ 41 l2 l100 rfl (by decide) z1 (Sgm_1 (Nat.le_refl _) (Nat.le_refl _) (It_lp (by rw [u_n (by omega)]; exact z3) (by rw [u_n (by omega)]; exact z4)))
    have b4 : ∀ (L' : LV), L'.1 2 = nI i → L'.1 3 = nI (tb.getD i e0E).2.1 → ((tb.getD i e0E).2.1 = 1 → tkK T n (tkN T n q) = 6) → ¬ (tb.getD i e0E).2.1 = 2 → Tm (fun k => f_F2 k (e + 3) 7 4 L' τ1) (QPo b u tb.length sz mk x (PmR T n b u al gl Vm tb o mk p sz q v) σ (0 + n1) (0 + n2)) := by
      intro L' l2 l3 h6 n2'
      refine Tm_suc (fun k => nd_4 k _ _ _) ?_
      rw [l3]
      by_cases k1 : (tb.getD i e0E).2.1 = 1
      · obtain ⟨z1, z2, z3, z4⟩ := en3 k1
        rw [if_neg (by omega), if_pos ⟨z1, h6 k1⟩] at w2
        refine Tm_yes (by rw [k1]; rfl) ?_
        refine Tm_oP (Sy_pp s1) ?_
        rw [l2]
        refine Tm_chk ii ?_
        refine Tm_d ?_
        rw [ci, t6]
        have bd1 : BdX n o (tkN T n q) v mk p (sz + 0) tb.length := BdX_g bd (by omega) go.2.1 (Nat.le_refl _) (Nat.le_refl _) (by omega)
        refine st_call (C := True) s1.1 (c_fcall (qn := q) px s1.1.1 (EvX_k ev s1.1.2.1) bd1 (h6 k1) g1 z4 rfl w2 hd) ?_
        cases x with
        | inl yf => exact Or.inl ⟨_, rfl, rfl⟩
        | inr r0 =>
          refine Or.inr ⟨r0, rfl, trivial, fun τ3 ret3 p1 p2 hr xk3 hc3 => ?_⟩
          obtain ⟨ll, r1, r2, r3, r4, r5, r6, r7⟩ := hr
          have s3 := Sy_ca s1 r1 xk3 hc3 r2 (Nat.le_refl _) (Nat.le_refl _)
          exact Tm_some (Qfin s3.1 ⟨ll, s3.1.1, s3.2, r3, r4, r5, r6, Or.inl ⟨r7, rfl⟩⟩)
      · refine Tm_no (fun z => k1 ?_) ?_
        · have z' : nI (tb.getD i e0E).2.1 = nI 1 := z
          rw [n_eq (by omega) (by decide)] at z'
          exact z'
        · refine Tm_suc (fun k => nd_5 k _ _ _) ?_
          by_cases k3 : (tb.getD i e0E).2.1 = 3
          · refine Tm_yes (by rw [l3, k3]; rfl) ?_
            exact b7 _ l2 (Or.inr ⟨k3, rfl⟩)
          · refine Tm_no (fun z => k3 ?_) ?_
            · rw [l3] at z
              have z' : nI (tb.getD i e0E).2.1 = nI 3 := z
              rw [n_eq (by omega) (by decide)] at z'
              exact z'
            · refine Tm_suc (fun k => nd_6 k _ _ _) ?_
              exact b7 _ l2 (Or.inl ⟨by omega, rfl⟩)
    have b2 : ∀ (L' : LV), L'.1 1 = nI q → L'.1 2 = nI i → L'.1 100 = nI (tb.getD i e0E).2.1 → Tm (fun k => f_F2 k (e + 3) 7 2 L' τ1) (QPo b u tb.length sz mk x (PmR T n b u al gl Vm tb o mk p sz q v) σ (0 + n1) (0 + n2)) := by
      intro L' l1 l2 l100
      refine Tm_suc (fun k => nd_2 k _ _ _) ?_
      rw [l100]
      by_cases k2 : (tb.getD i e0E).2.1 = 2
      · obtain ⟨z1, z2, z3⟩ := en4 k2
        rw [if_neg (by omega), if_neg (fun z => by omega)] at w2
        refine Tm_yes (by rw [k2]; rfl) ?_
        exact b3 _ l1 (Option.some.inj w2).symm
      · refine Tm_no (fun z => k2 ?_) ?_
        · have z' : nI (tb.getD i e0E).2.1 = nI 2 := z
          rw [n_eq (by omega) (by decide)] at z'
          exact z'
        · by_cases k1 : (tb.getD i e0E).2.1 = 1
          · obtain ⟨z1, z2, z3, z4⟩ := en3 k1
            refine Tm_yes (by rw [k1]; rfl) ?_
            by_cases k6 : tkK T n (tkN T n q) = 6
            · refine Tm_yes ((lx_k (kk := 6) s1.1.1 (by decide)).2 k6) ?_
              exact b4 _ l2 rfl (fun _ => k6) k2
            · refine Tm_no (fun z => k6 ((lx_k (kk := 6) s1.1.1 (by decide)).1 z)) ?_
              rw [if_neg (by omega), if_neg (fun z => k6 z.2)] at w2
              exact b3 _ l1 (Option.some.inj w2).symm
          · refine Tm_no (fun z => k1 ?_) ?_
            · have z' : nI (tb.getD i e0E).2.1 = nI 1 := z
              rw [n_eq (by omega) (by decide)] at z'
              exact z'
            · exact b4 _ l2 rfl (fun z => absurd z k1) k2
    rw [e1]
    refine Tm_no n1' ?_
    refine Tm_suc (fun k => nd_1 k _ _ _) ?_
    refine Tm_oP (Sy_pp s1) ?_
    show Tm (fun k => if ¬ (nI i < 0 ∨ 256 ≤ (nI i).toNatClampNeg) then _ else none) _
    refine Tm_chk ii ?_
    refine b2 _ (lx_3 h) rfl ?_
    show τ1.2.2.1 (pR7 b) (nI i).toNatClampNeg = _
    rw [ci]
    exact t4
  · have f0 := nr2 lk
    rw [if_neg (by omega), if_neg (fun z => by omega)] at w2
    rw [e1]
    refine Tm_yes rfl ?_
    refine Tm_suc (fun k => nd_2 k _ _ _) ?_
    refine Tm_yes rfl ?_
    exact b3 _ (lx_3 h) (Option.some.inj w2).symm
end CVI
end JnS450
section JnS451
/-! The class: jumps are aimed; words are read. -/
section CVJ
variable {σ σ' σ0 τ τ' : CS} {L : LV} {b : Bool} {T : Nat → Int32} {n q q' u al o v mk p sz szB nc0 sz0 mk0 a1 a2 m kk f e op h : Nat} {y w : Int32} {l l' cs cs' : List Int32} {tb : List Ent} {α : Type} {S : α → Int32 → CS → Prop} {C : Prop} {E : En} {gl : Nat × (Nat → Nat → Prop)} {Vm : Nat → Prop} {bt : BT}
/-- an int of the code laid is set anew -/
theorem Sy_set (s : Sy T n b u al σ0 nc0 sz0 mk0 a1 a2 tb o q v mk p szB cs τ) (hs : sz0 ≤ szB) (hh : h < cs.length) (w : Int32) : Sy T n b u al σ0 nc0 sz0 mk0 a1 a2 tb o q v mk p szB (cs.set h w) (uA τ (pR0 (sKd τ b)) (szB + h) w) := by
  obtain ⟨⟨h1, h2, h3, h4, h5, h6⟩, k2⟩ := s
  have ln : (cs.set h w).length = cs.length := List.length_set
  have pc := pR_c b
  have ne : ∀ k, ¬ (k = 43 ∨ k = 51) → (uA τ (pR0 (sKd τ b)) (szB + h) w).2.2.1 k = τ.2.2.1 k := fun k hk => updG_other (fun z => by rcases pR0_c (sKd τ b) with y | y <;> omega)
  have cb : ∀ i, cdr b (uA τ (pR0 (sKd τ b)) (szB + h) w) i = if i = szB + h then w else cdr b τ i := fun i => by
    show updG τ.2.2.1 (pR0 (sKd τ b)) (upd (τ.2.2.1 (pR0 (sKd τ b))) (szB + h) w) (pR0 (sKd τ b)) i = _
    rw [updG_same]; rfl
  have co : ∀ i, i < szB → cdr (!b) (uA τ (pR0 (sKd τ b)) (szB + h) w) i = cdr (!b) τ i := fun i hi => by
    show updG τ.2.2.1 (pR0 (sKd τ b)) (upd (τ.2.2.1 (pR0 (sKd τ b))) (szB + h) w) (pR0 (sKd τ (!b))) i = τ.2.2.1 (pR0 (sKd τ (!b))) i
    by_cases z : pR0 (sKd τ (!b)) = pR0 (sKd τ b)
    · rw [z, updG_same, upd_other (by omega)]
    · rw [updG_other z]
  obtain ⟨g1, g2, g3, g4, g5, g6, g7, g8⟩ := h1
  have ph := Ph_s (σ := τ) (σ' := uA τ (pR0 (sKd τ b)) (szB + h) w) rfl
  refine ⟨⟨⟨LxQ_s g1 (fun _ _ _ => rfl) ⟨rfl, rfl⟩ (ne 38 (by decide)) rfl rfl, by rw [ln]; exact g2, g3, TbR_s g4 rfl rfl rfl (ne _ (by omega)) (ne _ (by omega)) (ne _ (by omega)) (ne _ (by omega)), g5, g6, ⟨by rw [ne _ (by omega)]; exact g7.1, g7.2⟩, g8⟩, ?_, ⟨by omega, by omega⟩, h4, by rw [ln]; exact h5, h6⟩, fun i hi => ?_⟩
  · obtain ⟨d1, ⟨d3, d4, d5⟩, d6, d12, d13, d14, d15, d16, d17⟩ := h2
    refine ⟨d1, ⟨fun k hk => (ne k (by omega)).trans (d3 k hk), d4, d5⟩, d6, fun i hi => by rw [ne _ (by omega)]; exact d12 i hi, fun i hi => ?_, fun i hi => ⟨?_, ?_⟩, fun i hi => by rw [ne 41 (by decide)]; exact d15 i hi, d16, d17⟩
    · have y := d13 i hi
      rw [ne (pR7 b) (by omega), ne (pR8 b) (by omega), ne (pR9 b) (by omega), ne (pR10 b) (by omega)]
      exact y
    · rw [cb, if_neg (by omega)]; exact (d14 i hi).1
    · rw [co i (by omega)]; exact (d14 i hi).2
  · rw [cb, gd_set]
    rw [ln] at hi
    by_cases z : i = h
    · rw [if_pos (by omega), if_pos ⟨z, hh⟩]
    · rw [if_neg (by omega), if_neg (fun y => z y.1)]
      exact k2 i hi
theorem cdn_b (s : QS T n b u al tb o q v mk p sz τ) : cdn b τ ≤ 36864 := by
  rcases s.2.1.2.2 with z | z
  · omega
  · rcases pR0_c (sKd τ b) with y | y
    · show sN τ (pR0 (sKd τ b)) ≤ _; rw [y, z.1]; decide
    · show sN τ (pR0 (sKd τ b)) ≤ _; rw [y, z.2]; decide
theorem c_aim (s : Sy T n b u al σ0 nc0 sz0 mk0 a1 a2 tb o q v mk p szB cs τ) (hs : sz0 ≤ szB) (hh : h < cs.length) (ho : op < 256) {x : Int32} (hc : cs.getD h 0 = em op x) (hb : L.2.2.1 0 = b) (h1 : L.1 1 = nI (szB + h)) : Tm (fun k => y_X7_aim__P k 0 L τ) (fun r => Sy T n b u al σ0 nc0 sz0 mk0 a1 a2 tb o q v mk p szB (cs.set h (em op (L.1 2 - L.1 1))) r.2) := by
  have n36 := cdn_b s.1.1
  have le : szB + cs.length ≤ cdn b τ := s.1.1.2.1.2.1
  have ii : ¬ (nI (szB + h) < 0 ∨ cdn b τ ≤ (nI (szB + h)).toNatClampNeg) := u_in (by rw [u_n (by omega)]; omega) (by omega)
  refine Tm_suc (fun k => by rw [y_X7_aim__P]) ?_
  rw [hb, h1]
  refine Tm_chk ii (Tm_chk ii ?_)
  rw [n_cl (by omega)]
  have e1 : τ.2.2.1 (pR0 (sKd τ b)) (szB + h) = em op x := (s.2 h hh).trans hc
  rw [e1, em_lo ho]
  exact Tm_some (Sy_set s hs hh _)
theorem aim_n {j : Nat} (h1 : j ≤ cs.length) (h2 : szB + cs.length ≤ 1000000) : nI (szB + cs.length) - nI (szB + j) = nI (cs.length - j) := by
  rw [n_sub (by omega) (by omega)]
  exact congrArg nI (by omega)
/-- the newest of some jumps -/
def jsH (szB : Nat) : List Nat → Nat
  | [] => 0
  | j :: _ => szB + j
/-- jumps that wait, each telling the one before it -/
def JsC (szB : Nat) (cs : List Int32) : List Nat → Prop
  | [] => True
  | j :: js => j < cs.length ∧ 1 ≤ szB + j ∧ cs.getD j 0 = em 3 (nI (jsH szB js)) ∧ (∀ i, i ∈ js → ¬ i = j) ∧ JsC szB cs js
/-- they come to the code's end -/
def jsF (cs : List Int32) : List Nat → List Int32
  | [] => cs
  | j :: js => jsF (cs.set j (em 3 (nI (cs.length - j)))) js
theorem JsC_set {w : Int32} : ∀ (js : List Nat) (cs : List Int32) (j : Nat), (∀ i, i ∈ js → ¬ i = j) → JsC szB cs js → JsC szB (cs.set j w) js
  | [], _, _, _, _ => trivial
  | i :: js, cs, j, hn, z => by
    obtain ⟨z1, z2, z3, z4, z5⟩ := z
    refine ⟨by rw [List.length_set]; exact z1, z2, ?_, z4, JsC_set js cs j (fun k hk => hn k (List.mem_cons_of_mem _ hk)) z5⟩
    rw [gd_set, if_neg (fun y => hn i List.mem_cons_self y.1)]
    exact z3
theorem c_aimAll (hs : sz0 ≤ szB) (h36 : szB + cs.length ≤ 36864) : ∀ (js : List Nat) (i : Nat) (cs : List Int32) (τ : CS) (L' : LV), i + js.length ≤ 32768 → szB + cs.length ≤ 36864 → JsC szB cs js → L'.1 2 = nI (jsH szB js) → L'.1 3 = nI i → Sy T n b u al σ0 nc0 sz0 mk0 a1 a2 tb o q v mk p szB cs τ → Tm (fun k => y_X5_aimAll k 1 L' τ) (fun r => Sy T n b u al σ0 nc0 sz0 mk0 a1 a2 tb o q v mk p szB (jsF cs js) r.2) := by
  have fin : ∀ (cs : List Int32) (τ : CS) (L' : LV), Sy T n b u al σ0 nc0 sz0 mk0 a1 a2 tb o q v mk p szB cs τ → Tm (fun k => y_X5_aimAll k 2 L' τ) (fun r => Sy T n b u al σ0 nc0 sz0 mk0 a1 a2 tb o q v mk p szB cs r.2) := by
    intro cs τ L' s
    refine Tm_suc (fun k => by rw [y_X5_aimAll]) ?_
    exact Tm_some s
  intro js
  induction js with
  | nil =>
    intro i cs τ L' hi hc hj l2 l3 s
    refine Tm_suc (fun k => by rw [y_X5_aimAll]) ?_
    have l2' : L'.1 2 = 0 := l2
    rw [l2', l3]
    refine Tm_no ?_ (Tm_yes rfl (fin cs τ _ s))
    show ¬ nI 32768 < nI i
    have hi' : i + 0 ≤ 32768 := hi
    rw [u_ltn (by decide) (by rw [u_n (by omega)]; omega), u_n (by decide), u_n (by omega)]
    omega
  | cons j js ih =>
    intro i cs τ L' hi hc hj l2 l3 s
    obtain ⟨j1, j2, j3, j4, j5⟩ := hj
    have hi' : i + (js.length + 1) ≤ 32768 := hi
    have l2' : L'.1 2 = nI (szB + j) := l2
    have n36 := cdn_b s.1.1
    have le : szB + cs.length ≤ cdn b τ := s.1.1.2.1.2.1
    have ii : ¬ (nI (szB + j) < 0 ∨ cdn b τ ≤ (nI (szB + j)).toNatClampNeg) := u_in (by rw [u_n (by omega)]; omega) (by omega)
    have pp := Sy_pp s
    refine Tm_suc (fun k => by rw [y_X5_aimAll]) ?_
    rw [l2', l3]
    refine Tm_no ?_ (Tm_no ?_ ?_)
    · show ¬ nI 32768 < nI i
      rw [u_ltn (by decide) (by rw [u_n (by omega)]; omega), u_n (by decide), u_n (by omega)]
      omega
    · intro z
      have z' := congrArg uN z
      rw [u_n (by omega)] at z'
      have : uN (0 : Int32) = 0 := rfl
      omega
    · refine Tm_oB pp (Tm_chk ii (Tm_oB pp (Tm_oB pp ?_)))
      have es : τ.1 (fP b 1) = nI (szB + cs.length) := s.1.1.2.1.1
      refine Tm_oc (c_aim (op := 3) s hs j1 (by decide) j3 rfl rfl) (fun r z => ?_)
      have z' : Sy T n b u al σ0 nc0 sz0 mk0 a1 a2 tb o q v mk p szB (cs.set j (em 3 (nI (cs.length - j)))) r.2 := by
        have e : em 3 (τ.1 (fP b 1) - nI (szB + j)) = em 3 (nI (cs.length - j)) := by rw [es, aim_n (by omega) (by omega)]
        rw [← e]; exact z
      refine ih (i + 1) (cs.set j (em 3 (nI (cs.length - j)))) r.2 _ (by omega) (by rw [List.length_set]; exact hc) (JsC_set js cs j j4 j5) ?_ ?_ z'
      · show τ.2.2.1 (pR0 (sKd τ b)) (nI (szB + j)).toNatClampNeg >>> ((8 : Int32) &&& 31) = _
        rw [n_cl (by omega)]
        have e1 : τ.2.2.1 (pR0 (sKd τ b)) (szB + j) = em 3 (nI (jsH szB js)) := (s.2 j j1).trans j3
        rw [e1]
        cases js with
        | nil => exact em_hi (by decide) (Sm3_n (by show 0 < _; decide))
        | cons i2 js2 =>
          obtain ⟨k1, _⟩ := j5
          exact em_hi (by decide) (Sm3_n (by show szB + i2 < _; omega))
      · show nI i + 1 = _
        exact n_add1 i
/-- the op of a word -/
def wOp (k : Nat) : Nat := if 71 ≤ k ∧ k ≤ 79 then 162 + k - 71 else 171
theorem c_wordOp {k0 : Nat} (hk : k0 < 1000) (h0 : L.1 0 = nI k0) : Tm (fun k => y_X5_wordOp k 0 L σ) (fun r => r.2 = σ ∧ (((71 ≤ k0 ∧ k0 ≤ 79) ∨ k0 = 82) → r.1 = nI (wOp k0)) ∧ (¬ ((71 ≤ k0 ∧ k0 ≤ 79) ∨ k0 = 82) → r.1 = -1)) := by
  have b1 : ¬ (71 ≤ k0 ∧ k0 ≤ 79) → Tm (fun k => y_X5_wordOp k 1 L σ) (fun r => r.2 = σ ∧ (((71 ≤ k0 ∧ k0 ≤ 79) ∨ k0 = 82) → r.1 = nI (wOp k0)) ∧ (¬ ((71 ≤ k0 ∧ k0 ≤ 79) ∨ k0 = 82) → r.1 = -1)) := by
    intro hn
    refine Tm_suc (fun k => by rw [y_X5_wordOp]) ?_
    rw [h0]
    by_cases k8 : k0 = 82
    · refine Tm_yes (by rw [k8]; rfl) ?_
      refine Tm_suc (fun k => by rw [y_X5_wordOp]) ?_
      refine Tm_some ⟨rfl, fun _ => ?_, fun z => absurd (Or.inr k8) z⟩
      unfold wOp
      rw [if_neg hn]
      rfl
    · refine Tm_no (fun z => k8 ?_) ?_
      · have z' : nI k0 = nI 82 := z
        rw [n_eq (by omega) (by decide)] at z'
        exact z'
      · refine Tm_suc (fun k => by rw [y_X5_wordOp]) ?_
        refine Tm_suc (fun k => by rw [y_X5_wordOp]) ?_
        exact Tm_some ⟨rfl, fun z => z.elim (fun y => absurd y hn) (fun y => absurd y k8), fun _ => rfl⟩
  have e71 : nI k0 < 71 ↔ k0 < 71 := by
    show nI k0 < nI 71 ↔ _
    rw [u_ltn (by rw [u_n (by omega)]; omega) (by decide), u_n (by omega), u_n (by decide)]
  have e79 : 79 < nI k0 ↔ 79 < k0 := by
    show nI 79 < nI k0 ↔ _
    rw [u_ltn (by decide) (by rw [u_n (by omega)]; omega), u_n (by decide), u_n (by omega)]
  refine Tm_suc (fun k => by rw [y_X5_wordOp]) ?_
  rw [h0]
  refine Tm_ite (fun z => b1 (by rw [e71] at z; omega)) (fun z => Tm_ite (fun w => b1 (by rw [e79] at w; omega)) (fun w => ?_))
  rw [e71] at z
  rw [e79] at w
  refine Tm_some ⟨rfl, fun _ => ?_, fun y => absurd (Or.inl ⟨by omega, by omega⟩) y⟩
  show 162 + nI k0 - 71 = _
  rw [show (162 : Int32) = nI 162 from rfl, n_add (by omega), show (71 : Int32) = nI 71 from rfl, n_sub (by omega) (by omega)]
  unfold wOp
  rw [if_pos ⟨by omega, by omega⟩]
end CVJ
end JnS451
section JnS452
/-! The class: words and choices are read. -/
section CVK
variable {σ σ' σ0 τ τ' : CS} {L : LV} {b : Bool} {T : Nat → Int32} {n q q' u al o v mk p sz szB nc0 sz0 mk0 a1 a2 m kk f e t : Nat} {y w : Int32} {l l' cs cs' : List Int32} {tb : List Ent} {α : Type} {S : α → Int32 → CS → Prop} {C : Prop} {E : En} {gl : Nat × (Nat → Nat → Prop)} {Vm : Nat → Prop} {bt : BT}
/-- behind an operand that is no variable -/
def XN (T : Nat → Int32) (n : Nat) (b : Bool) (u al : Nat) (gl : Nat × (Nat → Nat → Prop)) (Vm : Nat → Prop) (tb : List Ent) (o mk p sz q v : Nat) (r : RT) (τ : CS) : Prop := ∃ cs : List Int32, QS T n b u al tb o r.1 r.2.1 mk p (sz + cs.length) τ ∧ (∀ i, i < cs.length → cdr b τ (sz + i) = cs.getD i 0) ∧ Sgm u p gl Vm 1 cs ∧ 2 * cs.length ≤ 3 * (r.1 - q) + 1 ∧ q < r.1 ∧ v ≤ r.2.1 ∧ r.2.2.1 = 0
def wkB (k : Nat) : Bool := !(decide (tkV k)) || (decide (uN (cKd k) < 1000) && decide ((((71 ≤ uN (cKd k) ∧ uN (cKd k) ≤ 79) ∨ uN (cKd k) = 82) ↔ ((71 ≤ k ∧ k ≤ 79) ∨ k = 82)) ∧ ((71 ≤ k ∧ k ≤ 79) ∨ k = 82 → uN (cKd k) = k)))
theorem wk_ck : ∀ k : Nat, k < 85 → wkB k = true := by decide +kernel
theorem wk_all {k : Nat} (hk : tkV k) : uN (cKd k) < 1000 ∧ (((71 ≤ uN (cKd k) ∧ uN (cKd k) ≤ 79) ∨ uN (cKd k) = 82) ↔ ((71 ≤ k ∧ k ≤ 79) ∨ k = 82)) ∧ ((71 ≤ k ∧ k ≤ 79) ∨ k = 82 → uN (cKd k) = k) := by
  have z := wk_ck k (by omega)
  unfold wkB at z
  rw [decide_eq_true hk] at z
  have z' : (decide (uN (cKd k) < 1000) && decide ((((71 ≤ uN (cKd k) ∧ uN (cKd k) ≤ 79) ∨ uN (cKd k) = 82) ↔ ((71 ≤ k ∧ k ≤ 79) ∨ k = 82)) ∧ ((71 ≤ k ∧ k ≤ 79) ∨ k = 82 → uN (cKd k) = k))) = true := z
  rw [Bool.and_eq_true, decide_eq_true_eq, decide_eq_true_eq] at z'
  exact ⟨z'.1, z'.2.1, z'.2.2⟩
theorem wd_0 (k d : Nat) (L : LV) (σ : CS) : f_F2 (k + 1) d 13 0 L σ = (if ((σ.1 3702)) = 84 then (if ((σ.1 4004)) < 1 then (f_F2 k d 13 1 (lI L 1 ((σ.1 3702))) σ) else (f_F2 k d 13 2 (lI (lI L 1 ((σ.1 3702))) 100 1) σ)) else (f_F2 k d 13 1 (lI L 1 ((σ.1 3702))) σ)) := rfl
theorem wd_1 (k d : Nat) (L : LV) (σ : CS) : f_F2 (k + 1) d 13 1 L σ = (f_F2 k d 13 2 (lI L 100 0) σ) := rfl
theorem wd_2 (k d : Nat) (L : LV) (σ : CS) : f_F2 (k + 1) d 13 2 L σ = (if ((L.1 1)) = 83 then (if ((σ.1 4004)) = 2 then (ox (f_X2_advance k 0 lZ σ) (fun r3 => oP (sPp r3.2.1) (fun b4 => ox (f_X7_emit__P k 0 (lI (lI (lB lZ 0 b4) 1 54) 2 0) r3.2.1) (fun r5 => some ((0, 0), r5.2.1, (0, 0)))))) else (f_F2 k d 13 3 (lI L 2 ((L.1 100))) σ)) else (f_F2 k d 13 3 (lI L 2 ((L.1 100))) σ)) := rfl
theorem wd_3 (k d : Nat) (L : LV) (σ : CS) : f_F2 (k + 1) d 13 3 L σ = (op (y_X5_wordOp k 0 (lI lZ 0 ((L.1 1))) σ) (fun r1 => if r1.1 = ((-1)) then (if ((L.1 2)) = 0 then (ox (f_X5_refuse k 0 (lI (lI lZ 1 2) 2 ((r1.2.1 3703))) r1.2) (fun r4 => f_F2 k d 13 4 (lI L 3 r1.1) r4.2.1)) else (f_F2 k d 13 4 (lI L 3 r1.1) r1.2)) else (f_F2 k d 13 4 (lI L 3 r1.1) r1.2))) := rfl
theorem wd_4 (k d : Nat) (L : LV) (σ : CS) : f_F2 (k + 1) d 13 4 L σ = (ox (f_X2_advance k 0 lZ σ) (fun r1 => ox (f_X5_want k 0 (lI lZ 1 10) r1.2.1) (fun r2 => ox (f_X5_opens k 0 lZ r2.2.1) (fun r3 => of d (fun e4 => ox (f_F2 k e4 1 0 (lI lZ 1 0) r3.2.1) (fun r4 => ox (f_X5_closes k 0 (lI lZ 1 11) r4.2.1) (fun r5 => oP (sPp r5.2.1) (fun b6 => if ((L.1 2)) = 0 then (f_F2 k d 13 5 (lB L 100 b6) r5.2.1) else (f_F2 k d 13 6 (lB (lI L 100 55) 101 b6) r5.2.1))))))))) := rfl
theorem wd_5 (k d : Nat) (L : LV) (σ : CS) : f_F2 (k + 1) d 13 5 L σ = (f_F2 k d 13 6 (lB (lI L 100 ((L.1 3))) 101 ((L.2.2.1 100))) σ) := rfl
theorem wd_6 (k d : Nat) (L : LV) (σ : CS) : f_F2 (k + 1) d 13 6 L σ = (ox (f_X7_emit__P k 0 (lI (lI (lB lZ 0 ((L.2.2.1 101))) 1 ((L.1 100))) 2 0) σ) (fun r1 => some ((0, 0), r1.2.1, (0, 0)))) := rfl
theorem c_wordQ {bt1 : BT} {bt2 : RT → BT} {x : Fl RT} (px : PXp T n b u al f e) (h : QS T n b u al tb o q v mk p sz σ) (ev : EvX E b u al gl Vm tb σ) (bd : BdX n o q v mk p sz tb.length) (hG : (if tkK T n q = 83 ∧ E.2.2.2.2.1 = true then gT T n q (fun q1 => some (Sum.inr (q1, v, 0, bt.1, bt1, []))) else if isFn (tkK T n q) E.2.2.2.2.2.1 then gT T n q (fun q1 => if tkK T n q1 = 6 then gO o q1 (gT T n q1 (fun q2 => gb (G T n f 0 E (o + 1) q2 v 0 0 0 0 bt) (fun r => gW T n 7 r.1 (fun q3 => some (Sum.inr (q3, r.2.1, 0, r.2.2.2.2.1.1, bt2 r, [])))))) else some (Sum.inl (2, q1))) else some (Sum.inl (2, q))) = some x) (hd : ¬ o = 20 → 6 * (20 - (o + 1)) + 8 ≤ e) : Tm (fun k => f_F2 k (e + 1) 13 0 L σ) (QPo b u tb.length sz mk x (fun r _ τ => XN T n b u al gl Vm tb o mk p sz q v r τ) σ 0 0) := by
  have s0 := Sy_0 h
  have go := tk_go h
  have kv : tkV (tkK T n q) := tk_v h.1.2.2.2.1 h.1.2.2.2.2.1
  have ek : σ.1 3702 = cKd (tkK T n q) := h.1.2.2.2.2.2.1
  have al4 : σ.1 4004 = nI al := h.2.2.2.2.1.2.2.1
  obtain ⟨⟨al2, u42⟩, ev4, ev5⟩ := ev.2.2
  have b22 := bd.2.1
  obtain ⟨wk1, wk2, wk3⟩ := wk_all kv
  generalize hk0 : tkK T n q = k at *
  have eqw : ∀ j, tkV j → (cKd k = cKd j ↔ k = j) := fun j hj => ck_e kv hj
  -- behind the word
  have b4 : ∀ (L' : LV), (L'.1 2 = 0 ∧ L'.1 3 = nI (wOp k) ∧ ((71 ≤ k ∧ k ≤ 79) ∨ k = 82)) ∨ (L'.1 2 = 1 ∧ k = 84 ∧ E.2.2.2.2.2.1 = true) → Tm (fun k => f_F2 k (e + 1) 13 4 L' σ) (QPo b u tb.length sz mk x (fun r _ τ => XN T n b u al gl Vm tb o mk p sz q v r τ) σ 0 0) := by
    intro L' hw
    have isf : isFn k E.2.2.2.2.2.1 := by
      rcases hw with ⟨_, _, z⟩ | ⟨_, z1, z2⟩
      · rcases z with z | z
        · exact Or.inl z
        · exact Or.inr (Or.inl z)
      · exact Or.inr (Or.inr ⟨z1, z2⟩)
    have n83 : ¬ k = 83 := by
      rcases hw with ⟨_, _, z⟩ | ⟨_, z1, z2⟩ <;> omega
    have n25 : ¬ k = 25 := by
      rcases hw with ⟨_, _, z⟩ | ⟨_, z1, z2⟩ <;> omega
    have g1 := go.2.2 (by omega)
    rw [if_neg (fun z => n83 z.1), if_pos isf] at hG
    refine Tm_suc (fun k => wd_4 k _ _ _) ?_
    refine st_advY s0 (gT_any hG) (fun τ1 r1 er c1 s1 => ?_)
    rw [er]
    have go1 := tk_go s1.1.1
    by_cases k6 : tkK T n (tkN T n q) = 6
    · rw [if_pos k6] at c1
      have g2 := go1.2.2 (by omega)
      refine st_want (kk := 6) (C := True) s1 (by decide) rfl (Or.inr ⟨k6, trivial⟩) (fun τ2 ret2 m1 m2 _ s2 => ?_)
      have hop : (¬ (¬ o = 20 ∧ ¬ tkK T n (tkN T n (tkN T n q)) = 0) ∧ x = Sum.inl (oF T n o (tkN T n q))) ∨ ((¬ o = 20 ∧ ¬ tkK T n (tkN T n (tkN T n q)) = 0) ∧ gb (G T n f 0 E (o + 1) (tkN T n (tkN T n q)) v 0 0 0 0 bt) (fun r => gW T n 7 r.1 (fun q3 => some (Sum.inr (q3, r.2.1, 0, r.2.2.2.2.1.1, bt2 r, [])))) = some x) := by
        rcases gO_any c1 with ⟨w1, w2⟩ | ⟨w1, w2⟩
        · exact Or.inl ⟨fun z => z.1 w1, oF_a w1 w2⟩
        · rcases gT_any w2 with ⟨w3, w4⟩ | ⟨w3, w4⟩
          · exact Or.inl ⟨fun z => z.2 w3, oF_b w1 w4⟩
          · exact Or.inr ⟨⟨w1, w3⟩, w4⟩
      refine st_opens s2 hop (fun τ3 ret3 n1 n2 c3 s3 => ?_)
      refine Tm_d ?_
      have o20 : ¬ o = 20 := fun z => by
        have := s3.1.1.2.2.2.2.2.1.2
        omega
      have bd3 : BdX n (o + 1) (tkN T n (tkN T n q)) v mk p (sz + 0) tb.length := BdX_g bd (by omega) go1.2.1 (by omega) (Nat.le_refl _) (by omega)
      rcases gb_any c3 with ⟨yf, y1, y2⟩ | ⟨r4, y1, y2⟩
      · exact st_exp (C := True) px (Or.inl ⟨rfl, rfl⟩) s3 (EvX_k ev s3.1.2.1) bd3 rfl (hd o20) y1 (Or.inl ⟨_, rfl, y2⟩) (fun _ _ _ _ _ _ z => by cases z)
      · refine st_exp (C := True) px (Or.inl ⟨rfl, rfl⟩) s3 (EvX_k ev s3.1.2.1) bd3 rfl (hd o20) y1 (Or.inr ⟨r4, rfl, trivial⟩) (fun τ5 ret5 p1 p2 r5 l5 hz5 _ s5 xk5 sg5 ln5 lt5 lv5 tg5 => ?_)
        cases hz5
        have go5 := tk_go s5.1.1
        have y7 := gW_any y2
        refine st_closes (kk := 7) s5 (by decide) rfl y7 (fun τ6 ret6 x1 x2 c6 s6 => ?_)
        have k7 : tkK T n r4.1 = 7 := by
          rcases y7 with ⟨z1, z2⟩ | ⟨z1, _⟩
          · rw [z2] at c6; cases c6
          · exact z1.1
        cases c6
        have g6 := go5.2.2 (by omega)
        have s6' : Sy T n b u al σ tb.length sz mk (0 + m1 + n1 + p1 + x1) (0 + m2 + n2 + p2 + x2) tb o (tkN T n r4.1) r4.2.1 mk p sz l5 τ6 := s6
        refine Tm_oP (Sy_pp s6') ?_
        have b6 : ∀ (L2 : LV) (op : Nat), L2.1 100 = nI op → L2.2.2.1 101 = b → Itc u p gl Vm 1 1 [em op 0] → Tm (fun k => f_F2 k (e + 1) 13 6 L2 τ6) (QPo b u tb.length sz mk (Sum.inr (tkN T n r4.1, r4.2.1, 0, r4.2.2.2.2.1.1, bt2 r4, [])) (fun r _ τ => XN T n b u al gl Vm tb o mk p sz q v r τ) σ (0 + m1 + n1 + p1 + x1) (0 + m2 + n2 + p2 + x2)) := by
          intro L2 op l100 l101 it
          refine Tm_suc (fun k => wd_6 k _ _ _) ?_
          refine st_emit (op := op) s6' l101 l100 (by omega) (fun τ7 x3 x4 s7 => ?_)
          have lap : (l5 ++ [em op 0]).length = l5.length + 1 := by rw [List.length_append]; rfl
          refine Tm_some (Qfin s7.1 ⟨_, s7.1.1, s7.2, Sgm_ap sg5 (Nat.le_refl _) (by show 1 ≤ l5.length + 1; omega) it, ?_, ?_, lv5, rfl⟩)
          · show 2 * (l5 ++ [em op 0]).length ≤ 3 * (tkN T n r4.1 - q) + 1
            rw [lap]; omega
          · show q < tkN T n r4.1
            omega
        rcases hw with ⟨z1, z2, z3⟩ | ⟨z1, z2, z3⟩
        · refine Tm_yes z1 ?_
          refine Tm_suc (fun k => wd_5 k _ _ _) ?_
          exact b6 _ (wOp k) z2 rfl (It_un (by unfold wOp; split <;> omega))
        · refine Tm_no (by rw [z1]; decide) ?_
          exact b6 _ 55 rfl rfl It_ra
    · rw [if_neg k6] at c1
      exact st_want (kk := 6) (C := False) s1 (by decide) rfl (Or.inl ⟨k6, (Option.some.inj c1).symm⟩) (fun _ _ _ _ c _ => c.elim)
  have b3 : ∀ (L' : LV), L'.1 1 = cKd k → (L'.1 2 = 0 ∧ ¬ (k = 84 ∧ E.2.2.2.2.2.1 = true)) ∨ (L'.1 2 = 1 ∧ k = 84 ∧ E.2.2.2.2.2.1 = true) → ¬ (k = 83 ∧ E.2.2.2.2.1 = true) → Tm (fun k => f_F2 k (e + 1) 13 3 L' σ) (QPo b u tb.length sz mk x (fun r _ τ => XN T n b u al gl Vm tb o mk p sz q v r τ) σ 0 0) := by
    intro L' l1 hw n83
    refine Tm_suc (fun k => wd_3 k _ _ _) ?_
    refine Tm_op (c_wordOp (L := lI lZ 0 (L'.1 1)) wk1 (by show L'.1 1 = _; rw [l1]; exact u_of _)) (fun r z => ?_)
    obtain ⟨z1, z2, z3⟩ := z
    rw [z1]
    by_cases kw : (71 ≤ k ∧ k ≤ 79) ∨ k = 82
    · have e1 := z2 (wk2.2 kw)
      rw [wk3 kw] at e1
      rw [e1]
      refine Tm_no (fun y => ?_) ?_
      · have y' := congrArg uN y
        rw [u_n (by unfold wOp; split <;> omega)] at y'
        have : uN (-1 : Int32) = 4294967295 := by decide
        unfold wOp at y'
        split at y' <;> omega
      · refine b4 _ (Or.inl ⟨?_, rfl, kw⟩)
        rcases hw with ⟨w1, _⟩ | ⟨_, w2, _⟩
        · exact w1
        · omega
    · have e1 := z3 (fun y => kw (wk2.1 y))
      rw [e1]
      refine Tm_yes rfl ?_
      rcases hw with ⟨w1, w2⟩ | ⟨w1, w2, w3⟩
      · refine Tm_yes w1 ?_
        have nf : ¬ isFn k E.2.2.2.2.2.1 := fun y => by
          rcases y with y | y | y
          · exact kw (Or.inl y)
          · exact kw (Or.inr y)
          · exact w2 y
        rw [if_neg n83, if_neg nf] at hG
        rw [← Option.some.inj hG]
        exact st_ref s0.1 rfl (lx_3 h) (by decide)
      · refine Tm_no (by show ¬ L'.1 2 = 0; rw [w1]; decide) ?_
        exact b4 _ (Or.inr ⟨w1, w2, w3⟩)
  have b2 : ∀ (L' : LV), L'.1 1 = cKd k → (L'.1 100 = 0 ∧ ¬ (k = 84 ∧ E.2.2.2.2.2.1 = true)) ∨ (L'.1 100 = 1 ∧ k = 84 ∧ E.2.2.2.2.2.1 = true) → Tm (fun k => f_F2 k (e + 1) 13 2 L' σ) (QPo b u tb.length sz mk x (fun r _ τ => XN T n b u al gl Vm tb o mk p sz q v r τ) σ 0 0) := by
    intro L' l1 hw
    refine Tm_suc (fun k => wd_2 k _ _ _) ?_
    rw [l1, al4]
    by_cases k83 : k = 83
    · refine Tm_yes ((eqw 83 (by decide)).2 k83) ?_
      by_cases a2' : al = 2
      · refine Tm_yes (by rw [a2']; rfl) ?_
        rw [if_pos ⟨k83, ev4.2 a2'⟩] at hG
        have g1 := go.2.2 (by omega)
        refine st_advY s0 (gT_any hG) (fun τ1 r1 er c1 s1 => ?_)
        rw [er]
        cases c1
        refine Tm_oP (Sy_pp s1) ?_
        refine st_emit (op := 54) s1 rfl rfl (by show sz + 0 + 1 ≤ _; omega) (fun τ2 x1 x2 s2 => ?_)
        refine Tm_some (Qfin s2.1 ⟨[em 54 0], s2.1.1, s2.2, Sgm_1 (Nat.le_refl _) (Nat.le_refl _) It_na, ?_, g1, Nat.le_refl _, rfl⟩)
        show 2 * 1 ≤ 3 * (tkN T n q - q) + 1
        omega
      · refine Tm_no (fun z => a2' ?_) ?_
        · have z' : nI al = nI 2 := z
          rw [n_eq (by omega) (by decide)] at z'
          exact z'
        · exact b3 _ l1 hw (fun z => a2' (ev4.1 z.2))
    · refine Tm_no (fun z => k83 ((eqw 83 (by decide)).1 z)) ?_
      exact b3 _ l1 hw (fun z => k83 z.1)
  have b1 : ∀ (L' : LV), L'.1 1 = cKd k → ¬ (k = 84 ∧ E.2.2.2.2.2.1 = true) → Tm (fun k => f_F2 k (e + 1) 13 1 L' σ) (QPo b u tb.length sz mk x (fun r _ τ => XN T n b u al gl Vm tb o mk p sz q v r τ) σ 0 0) := by
    intro L' l1 hw
    refine Tm_suc (fun k => wd_1 k _ _ _) ?_
    exact b2 _ l1 (Or.inl ⟨rfl, hw⟩)
  refine Tm_suc (fun k => wd_0 k _ _ _) ?_
  rw [ek, al4]
  by_cases k84 : k = 84
  · refine Tm_yes ((eqw 84 (by decide)).2 k84) ?_
    have e1 : nI al < 1 ↔ al < 1 := by
      show nI al < nI 1 ↔ _
      rw [u_ltn (by rw [u_n (by omega)]; omega) (by decide), u_n (by omega), u_n (by decide)]
    refine Tm_ite (fun z => ?_) (fun z => ?_)
    · rw [e1] at z
      exact b1 _ rfl (fun y => by have := ev5.1 y.2; omega)
    · rw [e1] at z
      exact b2 _ rfl (Or.inr ⟨rfl, k84, ev5.2 (by omega)⟩)
  · refine Tm_no (fun z => k84 ((eqw 84 (by decide)).1 z)) ?_
    exact b1 _ rfl (fun y => k84 y.1)
end CVK
end JnS452
section JnS453
/-! The class: choices are read. -/
section CVL
variable {σ σ' σ0 τ τ' : CS} {L : LV} {b : Bool} {T : Nat → Int32} {n q q' u al o v mk p sz szB nc0 sz0 mk0 a1 a2 m kk f e t : Nat} {y w : Int32} {l l' cs cs' : List Int32} {tb : List Ent} {α : Type} {S : α → Int32 → CS → Prop} {C : Prop} {E : En} {gl : Nat × (Nat → Nat → Prop)} {Vm : Nat → Prop} {bt : BT}
theorem gW_a3 {t : Nat} {k : Nat → RG} {y : Fl RT} (h : gW T n t q k = some y) : (¬ (tkK T n q = t ∧ ¬ tkK T n (tkN T n q) = 0) ∧ y = Sum.inl (wF T n t q)) ∨ ((tkK T n q = t ∧ ¬ tkK T n (tkN T n q) = 0) ∧ (tkK T n q = t ∧ k (tkN T n q) = some y)) := by
  rcases gW_any h with z | z
  · exact Or.inl z
  · exact Or.inr ⟨z.1, z.1.1, z.2⟩
theorem gb_gb (x : RG) (k k' : RT → RG) : gb (gb x k) k' = gb x (fun r => gb (k r) k') := by
  rcases x with _ | _ | x
  · rfl
  · rfl
  · rfl
theorem gb_gT (q : Nat) (k : Nat → RG) (k' : RT → RG) : gb (gT T n q k) k' = gT T n q (fun q1 => gb (k q1) k') := by
  unfold gT
  by_cases c : tkK T n (tkN T n q) = 0
  · rw [if_pos c, if_pos c]; rfl
  · rw [if_neg c, if_neg c]
theorem gb_gW (t q : Nat) (k : Nat → RG) (k' : RT → RG) : gb (gW T n t q k) k' = gW T n t q (fun q1 => gb (k q1) k') := by
  unfold gW
  by_cases c : tkK T n q = t
  · rw [if_pos c, if_pos c, gb_gT]
  · rw [if_neg c, if_neg c]; rfl
theorem gb_gO (o q : Nat) (k : RG) (k' : RT → RG) : gb (gO o q k) k' = gO o q (gb k k') := by
  unfold gO
  by_cases c : o = 20
  · rw [if_pos c, if_pos c]; rfl
  · rw [if_neg c, if_neg c]
def jsM (js : List Nat) : List (Nat × Nat × Nat) := js.map (fun j => (j, 3, 1))
theorem Ph_js : ∀ (js : List Nat) (cs : List Int32), PKh u p gl Vm (jsM js) 1 cs → PKh u p gl Vm [] 1 (jsF cs js)
  | [], cs, h => h
  | j :: js, cs, h => by
    have z := Ph_fi (h := j) (op := 3) (tt := 1) h rfl
    exact Ph_js js _ z
theorem jsF_l : ∀ (js : List Nat) (cs : List Int32), (jsF cs js).length = cs.length
  | [], cs => rfl
  | j :: js, cs => by
    show (jsF (cs.set j (em 3 (nI (cs.length - j)))) js).length = _
    rw [jsF_l js, List.length_set]
theorem JsC_ap : ∀ (js : List Nat), JsC szB cs js → JsC szB (cs ++ l) js
  | [], _ => trivial
  | j :: js, z => by
    obtain ⟨z1, z2, z3, z4, z5⟩ := z
    exact ⟨by rw [List.length_append]; omega, z2, by rw [gd_l z1]; exact z3, z4, JsC_ap js z5⟩
theorem JsC_lt : ∀ (js : List Nat), JsC szB cs js → ∀ i, i ∈ js → i < cs.length
  | [], _, i, h => absurd h List.not_mem_nil
  | j :: js, z, i, h => by
    rcases List.mem_cons.1 h with y | y
    · rw [y]; exact z.1
    · exact JsC_lt js z.2.2.2.2 i y
theorem ch_0 (k d : Nat) (L : LV) (σ : CS) : f_F2 (k + 1) d 0 0 L σ = (ox (f_X5_opens k 0 lZ σ) (fun r1 => of d (fun e2 => ox (f_F2 k e2 1 0 (lI lZ 1 0) r1.2.1) (fun r2 => ox (f_X5_expect k 0 (lI lZ 1 40) r2.2.1) (fun r3 => oP (sPp r3.2.1) (fun b4 => ox (f_X7_emit__P k 0 (lI (lI (lB lZ 0 b4) 1 4) 2 0) r3.2.1) (fun r5 => of d (fun e6 => ox (f_F2 k e6 1 0 (lI lZ 1 0) r5.2.1) (fun r6 => oP (sPp r6.2.1) (fun b7 => ox (f_X7_emit__P k 0 (lI (lI (lB lZ 0 b7) 1 3) 2 0) r6.2.1) (fun r8 => oP (sPp r8.2.1) (fun b9 => oP (sPp r8.2.1) (fun b10 => op (y_X7_aim__P k 0 (lI (lI (lB lZ 0 b9) 1 r5.1.2) 2 ((r8.2.1.1 (fP b10 1)))) r8.2.1) (fun r11 => f_F2 k d 0 1 (lI (lI L 2 r8.1.2) 3 0) r11.2)))))))))))))) := rfl
theorem ch_1 (k d : Nat) (L : LV) (σ : CS) : f_F2 (k + 1) d 0 1 L σ = (if 32768 < ((L.1 3)) then (f_F2 k d 0 2 L σ) else (if ((σ.1 3702)) = 41 then (ox (f_X2_advance k 0 lZ σ) (fun r3 => of d (fun e4 => ox (f_F2 k e4 1 0 (lI lZ 1 0) r3.2.1) (fun r4 => ox (f_X5_expect k 0 (lI lZ 1 40) r4.2.1) (fun r5 => oP (sPp r5.2.1) (fun b6 => ox (f_X7_emit__P k 0 (lI (lI (lB lZ 0 b6) 1 4) 2 0) r5.2.1) (fun r7 => of d (fun e8 => ox (f_F2 k e8 1 0 (lI lZ 1 0) r7.2.1) (fun r8 => oP (sPp r8.2.1) (fun b9 => ox (f_X7_emit__P k 0 (lI (lI (lB lZ 0 b9) 1 3) 2 ((L.1 2))) r8.2.1) (fun r10 => oP (sPp r10.2.1) (fun b11 => oP (sPp r10.2.1) (fun b12 => op (y_X7_aim__P k 0 (lI (lI (lB lZ 0 b11) 1 r7.1.2) 2 ((r10.2.1.1 (fP b12 1)))) r10.2.1) (fun r13 => f_F2 k d 0 1 (lI (lI L 2 r10.1.2) 3 ((((L.1 3)) + 1))) r13.2)))))))))))))) else (f_F2 k d 0 2 L σ))) := rfl
theorem ch_2 (k d : Nat) (L : LV) (σ : CS) : f_F2 (k + 1) d 0 2 L σ = (ox (f_X5_expect k 0 (lI lZ 1 42) σ) (fun r1 => of d (fun e2 => ox (f_F2 k e2 1 0 (lI lZ 1 0) r1.2.1) (fun r2 => ox (f_X5_closes k 0 (lI lZ 1 38) r2.2.1) (fun r3 => op (y_X5_aimAll k 0 (lI lZ 1 ((L.1 2))) r3.2.1) (fun r4 => some ((0, 0), r4.2, (0, 0)))))))) := rfl
theorem c_choice {i6 e6 : RT → RT → Nat} {b6 : RT → RT → BT} {e9 : RT → RT → RT → RT → Nat} {b9 : RT → RT → RT → RT → BT} {x : Fl RT} (px : ∀ f', f' ≤ f → PXp T n b u al f' e) (h : QS T n b u al tb o q v mk p sz σ) (ev : EvX E b u al gl Vm tb σ) (bd : BdX n o q v mk p sz tb.length) (hk : ¬ tkK T n q = 25) (hG : gO o q (gT T n q (fun q1 => gb (G T n f 0 E (o + 1) q1 v 0 0 0 0 bt) (fun r => gW T n 40 r.1 (fun q2 => gb (G T n f 0 E (o + 1) q2 r.2.1 0 0 0 0 r.2.2.2.2.1) (fun s => gb (G T n f 16 E (o + 1) s.1 s.2.1 (i6 r s) (e6 r s) 0 0 (b6 r s)) (fun t => gW T n 42 t.1 (fun q3 => gb (G T n f 0 E (o + 1) q3 t.2.1 0 0 0 0 t.2.2.2.2.1) (fun w => gW T n 38 w.1 (fun q4 => some (Sum.inr (q4, w.2.1, 0, e9 r s t w, b9 r s t w, []))))))))))) = some x) (hd : ¬ o = 20 → 6 * (20 - (o + 1)) + 8 ≤ e) : Tm (fun k => f_F2 k (e + 1) 0 0 L σ) (QPo b u tb.length sz mk x (fun r _ τ => XN T n b u al gl Vm tb o mk p sz q v r τ) σ 0 0) := by
  have s0 := Sy_0 h
  have go := tk_go h
  have g1 := go.2.2 hk
  have b22 := bd.2.1
  have n10 := bd.1
  have hop : (¬ (¬ o = 20 ∧ ¬ tkK T n (tkN T n q) = 0) ∧ x = Sum.inl (oF T n o q)) ∨ ((¬ o = 20 ∧ ¬ tkK T n (tkN T n q) = 0) ∧ gb (G T n f 0 E (o + 1) (tkN T n q) v 0 0 0 0 bt) (fun r => gW T n 40 r.1 (fun q2 => gb (G T n f 0 E (o + 1) q2 r.2.1 0 0 0 0 r.2.2.2.2.1) (fun s => gb (G T n f 16 E (o + 1) s.1 s.2.1 (i6 r s) (e6 r s) 0 0 (b6 r s)) (fun t => gW T n 42 t.1 (fun q3 => gb (G T n f 0 E (o + 1) q3 t.2.1 0 0 0 0 t.2.2.2.2.1) (fun w => gW T n 38 w.1 (fun q4 => some (Sum.inr (q4, w.2.1, 0, e9 r s t w, b9 r s t w, []))))))))) = some x) := by
    rcases gO_any hG with ⟨w1, w2⟩ | ⟨w1, w2⟩
    · exact Or.inl ⟨fun z => z.1 w1, oF_a w1 w2⟩
    · rcases gT_any w2 with ⟨w3, w4⟩ | ⟨w3, w4⟩
      · exact Or.inl ⟨fun z => z.2 w3, oF_b w1 w4⟩
      · exact Or.inr ⟨⟨w1, w3⟩, w4⟩
  -- one branch
  have br : ∀ (Kf : RT → RT → RG) (num c3 : Int32) (L0 : LV) (τ : CS) (a1 a2 q1 v1 f1 : Nat) (cs : List Int32) (js : List Nat) (bt1 : BT), ¬ o = 20 → f1 ≤ f → gb (G T n f1 0 E (o + 1) q1 v1 0 0 0 0 bt1) (fun r => gW T n 40 r.1 (fun q2 => gb (G T n f1 0 E (o + 1) q2 r.2.1 0 0 0 0 r.2.2.2.2.1) (fun s => Kf r s))) = some x → num = nI (jsH sz js) → Sy T n b u al σ tb.length sz mk a1 a2 tb (o + 1) q1 v1 mk p sz cs τ → PKh u p gl Vm (jsM js) 0 cs → JsC sz cs js → 2 * cs.length + 3 ≤ 3 * (q1 - q) → q < q1 → v ≤ v1 → (∀ (r s : RT) (τ' : CS) (m1 m2 j : Nat) (cs' : List Int32), Kf r s = some x → Sy T n b u al σ tb.length sz mk m1 m2 tb (o + 1) s.1 s.2.1 mk p sz cs' τ' → PKh u p gl Vm (jsM (j :: js)) 0 cs' → JsC sz cs' (j :: js) → 2 * cs'.length ≤ 3 * (s.1 - q) → q1 + 2 ≤ s.1 → v ≤ s.2.1 → Tm (fun k => f_F2 k (e + 1) 0 1 (lI (lI L0 2 (nI (sz + j))) 3 c3) τ') (QPo b u tb.length sz mk x (fun r _ τ => XN T n b u al gl Vm tb o mk p sz q v r τ) σ m1 m2)) → Tm (fun k => of (e + 1) (fun e2 => ox (f_F2 k e2 1 0 (lI lZ 1 0) τ) (fun r2 => ox (f_X5_expect k 0 (lI lZ 1 40) r2.2.1) (fun r3 => oP (sPp r3.2.1) (fun b4 => ox (f_X7_emit__P k 0 (lI (lI (lB lZ 0 b4) 1 4) 2 0) r3.2.1) (fun r5 => of (e + 1) (fun e6 => ox (f_F2 k e6 1 0 (lI lZ 1 0) r5.2.1) (fun r6 => oP (sPp r6.2.1) (fun b7 => ox (f_X7_emit__P k 0 (lI (lI (lB lZ 0 b7) 1 3) 2 num) r6.2.1) (fun r8 => oP (sPp r8.2.1) (fun b9 => oP (sPp r8.2.1) (fun b10 => op (y_X7_aim__P k 0 (lI (lI (lB lZ 0 b9) 1 r5.1.2) 2 (r8.2.1.1 (fP b10 1))) r8.2.1) (fun r11 => f_F2 k (e + 1) 0 1 (lI (lI L0 2 r8.1.2) 3 c3) r11.2))))))))))))) (QPo b u tb.length sz mk x (fun r _ τ => XN T n b u al gl Vm tb o mk p sz q v r τ) σ a1 a2) := by
    intro Kf num c3 L0 τ a1 a2 q1 v1 f1 cs js bt1 o20 hf hg hn s1 pk jc ln lt lv cont
    have q1n := (tk_go s1.1.1).1
    refine Tm_d ?_
    have bd1 : BdX n (o + 1) q1 v1 mk p (sz + cs.length) tb.length := BdX_g bd (by omega) q1n (by omega) lv (by omega)
    rcases gb_any hg with ⟨yf, y1, y2⟩ | ⟨r4, y1, y2⟩
    · exact st_exp (C := True) (px f1 hf) (Or.inl ⟨rfl, rfl⟩) s1 (EvX_k ev s1.1.2.1) bd1 rfl (hd o20) y1 (Or.inl ⟨_, rfl, y2⟩) (fun _ _ _ _ _ _ z => by cases z)
    refine st_exp (C := True) (px f1 hf) (Or.inl ⟨rfl, rfl⟩) s1 (EvX_k ev s1.1.2.1) bd1 rfl (hd o20) y1 (Or.inr ⟨r4, rfl, trivial⟩) (fun τ2 ret2 m1 m2 r2 l2 hz2 _ s2 xk2 sg2 ln2 lt2 lv2 tg2 => ?_)
    cases hz2
    have go2 := tk_go s2.1.1
    refine st_expect (kk := 40) s2 (by decide) rfl (gW_a3 y2) (fun τ3 ret3 m3 m4 c3' s3 => ?_)
    obtain ⟨k40, y3⟩ := c3'
    have g4 := go2.2.2 (by omega)
    refine Tm_oP (Sy_pp s3) ?_
    have la : (cs ++ l2).length = cs.length + l2.length := List.length_append
    refine st_emit (op := 4) s3 rfl rfl (by rw [la]; omega) (fun τ4 x1 x2 s4 => ?_)
    refine Tm_d ?_
    have lb : (cs ++ l2 ++ [em 4 0]).length = cs.length + l2.length + 1 := by rw [List.length_append, la]; rfl
    have bd4 : BdX n (o + 1) (tkN T n r4.1) r4.2.1 mk p (sz + (cs ++ l2 ++ [em 4 0]).length) tb.length := BdX_g bd (by omega) go2.2.1 (by omega) (by omega) (by rw [lb]; omega)
    have s4' : Sy T n b u al σ tb.length sz mk (a1 + m1 + m3 + x1) (a2 + m2 + m4 + x2) tb (o + 1) (tkN T n r4.1) r4.2.1 mk p sz (cs ++ l2 ++ [em 4 0]) τ4 := s4
    rcases gb_any y3 with ⟨yf, z1, z2⟩ | ⟨r6, z1, z2⟩
    · exact st_exp (C := True) (px f1 hf) (Or.inl ⟨rfl, rfl⟩) s4' (EvX_k ev s4'.1.2.1) bd4 rfl (hd o20) z1 (Or.inl ⟨_, rfl, z2⟩) (fun _ _ _ _ _ _ z => by cases z)
    refine st_exp (C := True) (px f1 hf) (Or.inl ⟨rfl, rfl⟩) s4' (EvX_k ev s4'.1.2.1) bd4 rfl (hd o20) z1 (Or.inr ⟨r6, rfl, trivial⟩) (fun τ6 ret6 p1 p2 r6' l6 hz6 _ s6 xk6 sg6 ln6 lt6 lv6 tg6 => ?_)
    cases hz6
    have lc : (cs ++ l2 ++ [em 4 0] ++ l6).length = cs.length + l2.length + 1 + l6.length := by rw [List.length_append, lb]
    have q6n := (tk_go s6.1.1).1
    refine Tm_oP (Sy_pp s6) ?_
    refine st_emit (op := 3) s6 rfl rfl (by rw [lc]; omega) (fun τ8 x3 x4 s8 => ?_)
    refine Tm_oP (Sy_pp s8) (Tm_oP (Sy_pp s8) ?_)
    have ld : (cs ++ l2 ++ [em 4 0] ++ l6 ++ [em 3 num]).length = cs.length + l2.length + 1 + l6.length + 1 := by rw [List.length_append, lc]; rfl
    have hget : (cs ++ l2 ++ [em 4 0] ++ l6 ++ [em 3 num]).getD (cs.length + l2.length) 0 = em 4 0 := by
      rw [gd_l (by rw [lc]; omega), gd_l (by rw [lb]; omega)]
      have z := gd_r (a := cs ++ l2) (b := [em 4 0]) 0
      rw [la] at z
      exact z
    have s8' : Sy T n b u al σ tb.length sz mk (a1 + m1 + m3 + x1 + p1 + x3) (a2 + m2 + m4 + x2 + p2 + x4) tb (o + 1) r6.1 r6.2.1 mk p sz (cs ++ l2 ++ [em 4 0] ++ l6 ++ [em 3 num]) τ8 := s8
    refine Tm_op (c_aim (h := cs.length + l2.length) (op := 4) s8' (Nat.le_refl _) (by rw [ld]; omega) (by decide) hget rfl (by show nI (sz + (cs ++ l2).length) = _; rw [la])) (fun r11 z11 => ?_)
    have es8 : τ8.1 (fP b 1) = nI (sz + (cs ++ l2 ++ [em 4 0] ++ l6 ++ [em 3 num]).length) := s8'.1.1.2.1.1
    have s11 : Sy T n b u al σ tb.length sz mk (a1 + m1 + m3 + x1 + p1 + x3) (a2 + m2 + m4 + x2 + p2 + x4) tb (o + 1) r6.1 r6.2.1 mk p sz ((cs ++ l2 ++ [em 4 0] ++ l6 ++ [em 3 num]).set (cs.length + l2.length) (em 4 (nI ((cs ++ l2 ++ [em 4 0] ++ l6 ++ [em 3 num]).length - (cs.length + l2.length))))) r11.2 := by
      have e1 : τ8.1 (fP b 1) - nI (sz + (cs ++ l2).length) = nI ((cs ++ l2 ++ [em 4 0] ++ l6 ++ [em 3 num]).length - (cs.length + l2.length)) := by
        rw [es8, la, aim_n (by rw [ld]; omega) (by rw [ld]; omega)]
      rw [← e1]
      exact z11
    -- how it is typed
    have pk1 := Ph_sg pk sg2
    have pk2 := Ph_j (op := 4) (t' := 0) pk1 (by decide) (fun _ => rfl) (fun z => absurd z (by decide)) 0
    have pk3 := Ph_sg pk2 sg6
    have pk4 := Ph_j (op := 3) (t' := 0) pk3 (by decide) (fun z => absurd rfl z) (fun _ => Nat.zero_le _) num
    have pk5 : PKh u p gl Vm (((cs ++ l2).length, 4, 0) :: jsM ((cs ++ l2 ++ [em 4 0] ++ l6).length :: js)) 0 (cs ++ l2 ++ [em 4 0] ++ l6 ++ [em 3 num]) := Ph_sw pk4
    have pk6 := Ph_fi (h := (cs ++ l2).length) (op := 4) (tt := 0) pk5 rfl
    rw [la] at pk6
    have jc1 : JsC sz (cs ++ l2 ++ [em 4 0] ++ l6 ++ [em 3 num]) js := JsC_ap js (JsC_ap js (JsC_ap js (JsC_ap js jc)))
    have jlt := JsC_lt js jc
    have jc2 : JsC sz (cs ++ l2 ++ [em 4 0] ++ l6 ++ [em 3 num]) ((cs ++ l2 ++ [em 4 0] ++ l6).length :: js) := by
      refine ⟨by rw [ld, lc]; omega, by rw [lc]; omega, ?_, fun i hi => by have := jlt i hi; rw [lc]; omega, jc1⟩
      have z := gd_r (a := cs ++ l2 ++ [em 4 0] ++ l6) (b := [em 3 num]) 0
      rw [Nat.add_zero] at z
      rw [z, ← hn]
      rfl
    have jc3 := JsC_set (w := em 4 (nI ((cs ++ l2 ++ [em 4 0] ++ l6 ++ [em 3 num]).length - (cs.length + l2.length)))) ((cs ++ l2 ++ [em 4 0] ++ l6).length :: js) _ (cs.length + l2.length) (fun i hi => by
      rcases List.mem_cons.1 hi with y | y
      · rw [y, lc]; omega
      · have := jlt i y; omega) jc2
    exact cont r4 r6 r11.2 _ _ _ _ z2 s11 pk6 jc3 (by rw [List.length_set, ld]; omega) (by omega) (by omega)
  -- from the else on
  have b2 : ∀ (r s tt : RT) (L' : LV) (τ : CS) (a1 a2 : Nat) (cs : List Int32) (js : List Nat), ¬ o = 20 → gW T n 42 tt.1 (fun q3 => gb (G T n f 0 E (o + 1) q3 tt.2.1 0 0 0 0 tt.2.2.2.2.1) (fun w => gW T n 38 w.1 (fun q4 => some (Sum.inr (q4, w.2.1, 0, e9 r s tt w, b9 r s tt w, []))))) = some x → L'.1 2 = nI (jsH sz js) → Sy T n b u al σ tb.length sz mk a1 a2 tb (o + 1) tt.1 tt.2.1 mk p sz cs τ → PKh u p gl Vm (jsM js) 0 cs → JsC sz cs js → js.length ≤ tt.1 → 2 * cs.length ≤ 3 * (tt.1 - q) → q < tt.1 → v ≤ tt.2.1 → Tm (fun k => f_F2 k (e + 1) 0 2 L' τ) (QPo b u tb.length sz mk x (fun r _ τ => XN T n b u al gl Vm tb o mk p sz q v r τ) σ a1 a2) := by
    intro r s tt L' τ a1 a2 cs js o20 hg l2 s1 pk jc jl ln lt lv
    have go1 := tk_go s1.1.1
    refine Tm_suc (fun k => ch_2 k _ _ _) ?_
    refine st_expect (kk := 42) s1 (by decide) rfl (gW_a3 hg) (fun τ2 ret2 m1 m2 c2 s2 => ?_)
    obtain ⟨k42, y2⟩ := c2
    have g2 := go1.2.2 (by omega)
    refine Tm_d ?_
    have bd2 : BdX n (o + 1) (tkN T n tt.1) tt.2.1 mk p (sz + cs.length) tb.length := BdX_g bd (by omega) go1.2.1 (by omega) lv (by omega)
    rcases gb_any y2 with ⟨yf, z1, z2⟩ | ⟨r4, z1, z2⟩
    · exact st_exp (C := True) (px f (Nat.le_refl _)) (Or.inl ⟨rfl, rfl⟩) s2 (EvX_k ev s2.1.2.1) bd2 rfl (hd o20) z1 (Or.inl ⟨_, rfl, z2⟩) (fun _ _ _ _ _ _ z => by cases z)
    refine st_exp (C := True) (px f (Nat.le_refl _)) (Or.inl ⟨rfl, rfl⟩) s2 (EvX_k ev s2.1.2.1) bd2 rfl (hd o20) z1 (Or.inr ⟨r4, rfl, trivial⟩) (fun τ4 ret4 p1 p2 r4' l4 hz4 _ s4 xk4 sg4 ln4 lt4 lv4 tg4 => ?_)
    cases hz4
    have go4 := tk_go s4.1.1
    refine st_closes (kk := 38) s4 (by decide) rfl (gW_a3 z2) (fun τ5 ret5 x1 x2 c5 s5 => ?_)
    obtain ⟨k38, y5⟩ := c5
    cases y5
    have g5 := go4.2.2 (by omega)
    have la : (cs ++ l4).length = cs.length + l4.length := List.length_append
    have s5' : Sy T n b u al σ tb.length sz mk (a1 + m1 + p1 + x1) (a2 + m2 + p2 + x2) tb o (tkN T n r4.1) r4.2.1 mk p sz (cs ++ l4) τ5 := s5
    have t5 : Tm (fun k => y_X5_aimAll k 0 (lI lZ 1 (L'.1 2)) τ5) (fun r => Sy T n b u al σ tb.length sz mk (a1 + m1 + p1 + x1) (a2 + m2 + p2 + x2) tb o (tkN T n r4.1) r4.2.1 mk p sz (jsF (cs ++ l4) js) r.2) := by
      refine Tm_suc (fun k => by rw [y_X5_aimAll]) ?_
      exact c_aimAll (cs := cs ++ l4) (Nat.le_refl _) (by rw [la]; omega) js 0 (cs ++ l4) τ5 _ (by omega) (by rw [la]; omega) (JsC_ap js jc) l2 rfl s5'
    refine Tm_op t5 (fun r6 s6 => ?_)
    have lf := jsF_l js (cs ++ l4)
    have pk1 : PKh u p gl Vm (jsM js) 1 (cs ++ l4) := Ph_sg pk sg4
    refine Tm_some (Qfin s6.1 ⟨_, s6.1.1, s6.2, Ph_end (Ph_js js _ pk1), ?_, ?_, by show v ≤ r4.2.1; omega, rfl⟩)
    · show 2 * (jsF (cs ++ l4) js).length ≤ 3 * (tkN T n r4.1 - q) + 1
      rw [lf, la]; omega
    · show q < tkN T n r4.1
      omega
  -- the branches
  have b1 : ∀ (r s : RT) (f1 : Nat), f1 ≤ f → ∀ (L' : LV) (τ : CS) (a1 a2 q1 v1 i1 e1 : Nat) (bt1 : BT) (cs : List Int32) (js : List Nat), ¬ o = 20 → gb (G T n f1 16 E (o + 1) q1 v1 i1 e1 0 0 bt1) (fun t => gW T n 42 t.1 (fun q3 => gb (G T n f 0 E (o + 1) q3 t.2.1 0 0 0 0 t.2.2.2.2.1) (fun w => gW T n 38 w.1 (fun q4 => some (Sum.inr (q4, w.2.1, 0, e9 r s t w, b9 r s t w, [])))))) = some x → L'.1 2 = nI (jsH sz js) → L'.1 3 = nI (js.length - 1) → 1 ≤ js.length → Sy T n b u al σ tb.length sz mk a1 a2 tb (o + 1) q1 v1 mk p sz cs τ → PKh u p gl Vm (jsM js) 0 cs → JsC sz cs js → js.length ≤ q1 → 2 * cs.length ≤ 3 * (q1 - q) → q < q1 → v ≤ v1 → Tm (fun k => f_F2 k (e + 1) 0 1 L' τ) (QPo b u tb.length sz mk x (fun r _ τ => XN T n b u al gl Vm tb o mk p sz q v r τ) σ a1 a2) := by
    intro r s f1
    induction f1 with
    | zero =>
      intro _ L' τ a1 a2 q1 v1 i1 e1 bt1 cs js _ hg
      exact absurd hg (by intro z; cases z)
    | succ f1 ih =>
      intro hf L' τ a1 a2 q1 v1 i1 e1 bt1 cs js o20 hg l2 l3 j1 s1 pk jc jl ln lt lv
      have go1 := tk_go s1.1.1
      have e16 : G T n (f1 + 1) 16 E (o + 1) q1 v1 i1 e1 0 0 bt1 = (if tkK T n q1 = 41 then gT T n q1 (fun q2 => gb (G T n f1 0 E (o + 1) q2 v1 0 0 0 0 bt1) (fun r => gW T n 40 r.1 (fun q2 => gb (G T n f1 0 E (o + 1) q2 r.2.1 0 0 0 0 r.2.2.2.2.1) (fun s => G T n f1 16 E (o + 1) s.1 s.2.1 i1 s.2.2.2.2.1.1 0 0 (bSet (bNode s.2.2.2.2.1 33 (nI r.2.2.2.1) (nI s.2.2.2.1) 0) 9 e1 (nI s.2.2.2.2.1.1)))))) else some (Sum.inr (q1, v1, i1, e1, bt1, []))) := rfl
      rw [e16] at hg
      refine Tm_suc (fun k => ch_1 k _ _ _) ?_
      refine Tm_no ?_ ?_
      · rw [l3]
        show ¬ nI 32768 < nI (js.length - 1)
        rw [u_ltn (by decide) (by rw [u_n (by omega)]; omega), u_n (by decide), u_n (by omega)]
        omega
      by_cases k41 : tkK T n q1 = 41
      · rw [if_pos k41] at hg
        have g2 := go1.2.2 (by omega)
        refine Tm_yes ((lx_k (kk := 41) s1.1.1 (by decide)).2 k41) ?_
        -- the whole behind the token, as one
        have hg2 : (tkK T n (tkN T n q1) = 0 ∧ x = Sum.inl (1, tkN T n q1)) ∨ (¬ tkK T n (tkN T n q1) = 0 ∧ gb (G T n f1 0 E (o + 1) (tkN T n q1) v1 0 0 0 0 bt1) (fun r' => gW T n 40 r'.1 (fun q2 => gb (G T n f1 0 E (o + 1) q2 r'.2.1 0 0 0 0 r'.2.2.2.2.1) (fun s' => gb (G T n f1 16 E (o + 1) s'.1 s'.2.1 i1 s'.2.2.2.2.1.1 0 0 (bSet (bNode s'.2.2.2.2.1 33 (nI r'.2.2.2.1) (nI s'.2.2.2.1) 0) 9 e1 (nI s'.2.2.2.2.1.1))) (fun t => gW T n 42 t.1 (fun q3 => gb (G T n f 0 E (o + 1) q3 t.2.1 0 0 0 0 t.2.2.2.2.1) (fun w => gW T n 38 w.1 (fun q4 => some (Sum.inr (q4, w.2.1, 0, e9 r s t w, b9 r s t w, [])))))))))  = some x) := by
          rw [gb_gT] at hg
          simp only [gb_gb, gb_gW] at hg
          exact gT_any hg
        refine st_advY s1 hg2 (fun τ2 r2 er c2 s2 => ?_)
        rw [er]
        refine br _ (L'.1 2) (L'.1 3 + 1) L' τ2 _ _ (tkN T n q1) v1 f1 cs js bt1 o20 (by omega) c2 l2 s2 pk jc (by omega) (by omega) lv (fun r' s' τ' m1 m2 j cs' k1 k2 k3 k4 k5 k6 k7 => ?_)
        refine ih (by omega) _ τ' m1 m2 s'.1 s'.2.1 _ _ _ cs' (j :: js) o20 k1 rfl ?_ (by show 1 ≤ js.length + 1; omega) k2 k3 k4 (by show js.length + 1 ≤ s'.1; omega) k5 (by omega) k7
        show L'.1 3 + 1 = nI (js.length + 1 - 1)
        rw [l3, n_add1]
        exact congrArg nI (by omega)
      · rw [if_neg k41] at hg
        refine Tm_no (fun z => k41 ((lx_k (kk := 41) s1.1.1 (by decide)).1 z)) ?_
        exact b2 r s (q1, v1, i1, e1, bt1, []) L' τ a1 a2 cs js o20 hg l2 s1 pk jc jl ln lt lv
  refine Tm_suc (fun k => ch_0 k _ _ _) ?_
  refine st_opens s0 hop (fun τ1 ret n1 n2 c1 s1 => ?_)
  have o20 : ¬ o = 20 := fun z => by
    have := s1.1.1.2.2.2.2.2.1.2
    omega
  refine br (fun r s => gb (G T n f 16 E (o + 1) s.1 s.2.1 (i6 r s) (e6 r s) 0 0 (b6 r s)) (fun t => gW T n 42 t.1 (fun q3 => gb (G T n f 0 E (o + 1) q3 t.2.1 0 0 0 0 t.2.2.2.2.1) (fun w => gW T n 38 w.1 (fun q4 => some (Sum.inr (q4, w.2.1, 0, e9 r s t w, b9 r s t w, []))))))) 0 0 L τ1 _ _ (tkN T n q) v f [] [] bt o20 (Nat.le_refl _) c1 rfl s1 (Ph_nil u p gl Vm) trivial (by show 2 * 0 + 3 ≤ _; omega) g1 (Nat.le_refl _) (fun r' s' τ' m1 m2 j cs' k1 k2 k3 k4 k5 k6 k7 => ?_)
  exact b1 r' s' f (Nat.le_refl _) _ τ' m1 m2 s'.1 s'.2.1 _ _ _ cs' [j] o20 k1 rfl rfl (by show 1 ≤ 1; omega) k2 k3 k4 (by show 1 ≤ s'.1; omega) k5 (by omega) k7
end CVL
end JnS453
