/-! The class: its parser lays code and looks names up. -/
section CVF
variable {σ σ' σ0 τ τ' : CS} {L : LV} {b : Bool} {T : Nat → Int32} {n q q' u al o v mk p sz szB nc0 sz0 mk0 a1 a2 m kk : Nat} {y : Int32} {l l' cs cs' : List Int32} {tb : List Ent} {α : Type} {x : Option α} {S : α → Int32 → CS → Prop} {C : Prop} {E : En} {gl : Nat × (Nat → Nat → Prop)} {Vm : Nat → Prop}
/-- the code laid since szB -/
def Sy (T : Nat → Int32) (n : Nat) (b : Bool) (u al : Nat) (σ0 : CS) (nc0 sz0 mk0 a1 a2 : Nat) (tb : List Ent) (o q v mk p szB : Nat) (cs : List Int32) (τ : CS) : Prop := Sx T n b u al σ0 nc0 sz0 mk0 a1 a2 tb o q v mk p (szB + cs.length) τ ∧ ∀ i, i < cs.length → cdr b τ (szB + i) = cs.getD i 0
theorem Sy_0 (h : QS T n b u al tb o q v mk p sz σ) : Sy T n b u al σ tb.length sz mk 0 0 tb o q v mk p sz [] σ := ⟨Sx_0 h, fun i hi => absurd hi (Nat.not_lt_zero _)⟩
theorem Sx_cd (h : Sx T n b u al σ0 nc0 sz0 mk0 a1 a2 tb o q v mk p sz τ) (a : CdO b sz l τ τ') {n1 n2 : Nat} (c : n1 + PhC τ' ≤ PhC τ ∧ n2 + PhS τ' ≤ PhS τ) : Sx T n b u al σ0 nc0 sz0 mk0 (a1 + n1) (a2 + n2) tb o q v mk p (sz + l.length) τ' := by
  obtain ⟨h1, h2, h3, h4, h5, h6⟩ := h
  obtain ⟨q1, q2⟩ := QS_cd h1 a
  exact ⟨q1, XK_t h2 q2 h4 h5 h6, ⟨by omega, by omega⟩, h4, by omega, h6⟩
theorem Sy_cd (h : Sy T n b u al σ0 nc0 sz0 mk0 a1 a2 tb o q v mk p szB cs τ) (a : CdO b (szB + cs.length) l τ τ') {n1 n2 : Nat} (c : n1 + PhC τ' ≤ PhC τ ∧ n2 + PhS τ' ≤ PhS τ) : Sy T n b u al σ0 nc0 sz0 mk0 (a1 + n1) (a2 + n2) tb o q v mk p szB (cs ++ l) τ' := by
  obtain ⟨h1, h2⟩ := h
  have z := Sx_cd h1 a c
  refine ⟨by rw [List.length_append, ← Nat.add_assoc]; exact z, fun i hi => ?_⟩
  rw [List.length_append] at hi
  obtain ⟨_, _, a3, a4⟩ := a
  rcases Nat.lt_or_ge i cs.length with w | w
  · rw [(a3 (szB + i) (by omega)).1, h2 i w, gd_l w]
  · have e := a4 (i - cs.length) (by omega)
    rw [show szB + cs.length + (i - cs.length) = szB + i from by omega] at e
    rw [e]
    have g := gd_r (a := cs) (b := l) (i - cs.length)
    rw [show cs.length + (i - cs.length) = i from by omega] at g
    exact g.symm
/-- an instruction -/
theorem st_emit {op : Nat} {f : Nat → RS → Option RS} (h : Sy T n b u al σ0 nc0 sz0 mk0 a1 a2 tb o q v mk p szB cs τ) (hb : L.2.2.1 0 = b) (h1 : L.1 1 = nI op) (hm : szB + cs.length + 1 ≤ 36864) (cont : ∀ (τ' : CS) (n1 n2 : Nat), Sy T n b u al σ0 nc0 sz0 mk0 (a1 + n1) (a2 + n2) tb o q v mk p szB (cs ++ [em op (L.1 2)]) τ' → Tm (fun k => f k ((0, nI (szB + cs.length)), τ', (n1, n2))) (QPo b u nc0 sz0 mk0 x S σ0 (a1 + n1) (a2 + n2))) : Tm (fun k => ox (f_X7_emit__P k 0 L τ) (f k)) (QPo b u nc0 sz0 mk0 x S σ0 a1 a2) := by
  refine Tm_ox (c_emit h.1.1.2.1 hb hm) (fun r w nz => absurd (by rw [w.1]) nz) (fun r w e0 => ?_)
  obtain ⟨w1, w2, w3⟩ := w
  rw [h1] at w3
  have k := cont r.2.1 r.2.2.1 r.2.2.2 (Sy_cd h w3 ⟨w2.1, w2.2⟩)
  have er : ((0, nI (szB + cs.length)), r.2.1, (r.2.2.1, r.2.2.2)) = r := by rw [← w1]
  rw [er] at k
  exact Tm_mono k (fun q z => QPo_s z)
theorem st_word {f : Nat → RS → Option RS} (h : Sy T n b u al σ0 nc0 sz0 mk0 a1 a2 tb o q v mk p szB cs τ) (hb : L.2.2.1 0 = b) (hm : szB + cs.length + 1 ≤ 36864) (cont : ∀ (τ' : CS) (n1 n2 : Nat), Sy T n b u al σ0 nc0 sz0 mk0 (a1 + n1) (a2 + n2) tb o q v mk p szB (cs ++ [L.1 1]) τ' → Tm (fun k => f k ((0, nI (szB + cs.length)), τ', (n1, n2))) (QPo b u nc0 sz0 mk0 x S σ0 (a1 + n1) (a2 + n2))) : Tm (fun k => ox (f_X7_word__P k 0 L τ) (f k)) (QPo b u nc0 sz0 mk0 x S σ0 a1 a2) := by
  refine Tm_ox (c_word h.1.1.2.1 hb hm) (fun r w nz => absurd (by rw [w.1]) nz) (fun r w e0 => ?_)
  obtain ⟨w1, w2, w3⟩ := w
  have k := cont r.2.1 r.2.2.1 r.2.2.2 (Sy_cd h w3 ⟨w2.1, w2.2⟩)
  have er : ((0, nI (szB + cs.length)), r.2.1, (r.2.2.1, r.2.2.2)) = r := by rw [← w1]
  rw [er] at k
  exact Tm_mono k (fun q z => QPo_s z)
theorem Sy_pp (h : Sy T n b u al σ0 nc0 sz0 mk0 a1 a2 tb o q v mk p szB cs τ) : sPp τ = some b := h.1.1.2.2.2.2.1.1
/-- a call within that lays code -/
theorem Sy_ca {ll : List Int32} (h : Sy T n b u al σ0 nc0 sz0 mk0 a1 a2 tb o q v mk p szB cs τ) {n1 n2 : Nat} {o' v' mk' p' : Nat} {tb' : List Ent} (hq : QS T n b u al tb' o' q' v' mk' p' (szB + cs.length + ll.length) τ') (xk : XK b u tb.length (szB + cs.length) mk τ τ') (c : a1 + n1 + PhC τ' ≤ PhC σ0 ∧ a2 + n2 + PhS τ' ≤ PhS σ0) (hl : ∀ i, i < ll.length → cdr b τ' (szB + cs.length + i) = ll.getD i 0) (h4 : nc0 ≤ tb'.length) (h6 : mk0 ≤ mk') : Sy T n b u al σ0 nc0 sz0 mk0 (a1 + n1) (a2 + n2) tb' o' q' v' mk' p' szB (cs ++ ll) τ' := by
  obtain ⟨⟨h1, h2, h3, g4, g5, g6⟩, k2⟩ := h
  refine ⟨⟨by rw [List.length_append, ← Nat.add_assoc]; exact hq, XK_t h2 xk g4 g5 g6, c, h4, by rw [List.length_append]; omega, h6⟩, fun i hi => ?_⟩
  rw [List.length_append] at hi
  rcases Nat.lt_or_ge i cs.length with w | w
  · have y := (xk.2.2.2.2.2.1 (szB + i) (by omega)).1
    rw [y, k2 i w, gd_l w]
  · have e := hl (i - cs.length) (by omega)
    rw [show szB + cs.length + (i - cs.length) = szB + i from by omega] at e
    rw [e]
    have g := gd_r (a := cs) (b := ll) (i - cs.length)
    rw [show cs.length + (i - cs.length) = i from by omega] at g
    exact g.symm
/-- looked up in the table: the newest that is to be seen -/
def LkI (tb : List Ent) (bs : List Int32) (i : Nat) : Prop := i < tb.length ∧ ((tb.getD i e0E).1 = bs ∧ (tb.getD i e0E).2.2.2.2 = false) ∧ ∀ j, i < j → j < tb.length → ¬ ((tb.getD j e0E).1 = bs ∧ (tb.getD j e0E).2.2.2.2 = false)
def LkN (tb : List Ent) (bs : List Int32) : Prop := ∀ j, j < tb.length → ¬ ((tb.getD j e0E).1 = bs ∧ (tb.getD j e0E).2.2.2.2 = false)
theorem c_found {bs : List Int32} (h : TbR b tb σ) (hb : L.2.2.1 0 = b) (hk : okN bs) (h1 : L.2.1 1 = kyH bs) (h3 : L.2.1 3 = kyL bs) : Tm (fun k => y_X7_found__P k 0 L σ) (fun r => r.2 = σ ∧ ((∃ i, r.1 = nI i ∧ LkI tb bs i) ∨ (r.1 = -1 ∧ LkN tb bs))) := by
  obtain ⟨t1, t2, t3⟩ := h
  refine Tm_mono (s_found t1 t2 L hb) (fun r z => ?_)
  have cis : ∀ j, j < tb.length → (cIs σ b (L.2.1 1) (L.2.1 3) j ↔ ((tb.getD j e0E).1 = bs ∧ (tb.getD j e0E).2.2.2.2 = false)) := fun j hj => by
    obtain ⟨w1, w2, w3, w4, w5, w6, w7⟩ := t3 j hj
    show (σ.2.2.2.1 (pR5 b) j = L.2.1 1 ∧ σ.2.2.2.1 (pR6 b) j = L.2.1 3 ∧ σ.2.2.1 (pR10 b) j = 0) ↔ _
    rw [w2, w3, w7, h1, h3]
    have ki := ky_inj w1 hk
    constructor
    · rintro ⟨y1, y2, y3⟩
      refine ⟨ki.1 ⟨y1, y2⟩, ?_⟩
      cases hc : (tb.getD j e0E).2.2.2.2 with
      | false => rfl
      | true => rw [hc, if_pos rfl] at y3; exact absurd y3 (by decide)
    · rintro ⟨y1, y2⟩
      obtain ⟨k1, k2⟩ := ki.2 y1
      refine ⟨k1, k2, ?_⟩
      rw [y2, if_neg (by decide)]
  obtain ⟨z1, z2⟩ := z
  refine ⟨z1, ?_⟩
  rcases z2 with ⟨i, y1, y2, y3, y4⟩ | ⟨y1, y2⟩
  · exact Or.inl ⟨i, y2, y1, (cis i y1).1 y3, fun j j1 j2 w => y4 j j1 j2 ((cis j j2).2 w)⟩
  · exact Or.inr ⟨y1, fun j hj w => y2 j hj ((cis j hj).2 w)⟩
/-- what an entry says, as the reference finds it -/
def EntR (E : En) (u : Nat) (gl : Nat × (Nat → Nat → Prop)) (Vm : Nat → Prop) (e : Ent) (bs : List Int32) : Prop := (e.2.1 ≤ 3 ∧ e.2.2.1 < 42) ∧ (e.2.1 = 0 → (fd E bs).1 = 1 ∧ (e.2.2.1 = u → e.2.2.2.1 < 200 ∧ Vm (500000 + e.2.2.2.1)) ∧ (¬ e.2.2.1 = u → e.2.2.2.1 < gl.1)) ∧ (e.2.1 = 3 → (fd E bs).1 = 1 ∧ e.2.2.1 = u ∧ e.2.2.2.1 < 180 ∧ Vm (bsl + 500000 + e.2.2.2.1)) ∧ (e.2.1 = 1 → (fd E bs).1 = 2 ∧ e.2.2.2.1 < 41 ∧ e.2.2.2.1 = (fd E bs).2.1 + 1 ∧ gl.2 e.2.2.2.1 (E.2.2.2.2.2.2 (fd E bs).2.1)) ∧ (e.2.1 = 2 → (fd E bs).1 = 3 ∧ e.2.2.2.1 < 41 ∧ e.2.2.2.1 = (fd E bs).2.1 + 1)
/-- names here and there -/
def NmR (E : En) (u : Nat) (gl : Nat × (Nat → Nat → Prop)) (Vm : Nat → Prop) (tb : List Ent) : Prop := gl.1 ≤ 1000 ∧ ∀ bs, okN bs → (∀ i, LkI tb bs i → EntR E u gl Vm (tb.getD i e0E) bs) ∧ (LkN tb bs → (fd E bs).1 = 0)
/-- params of funcs -/
def PrR (b : Bool) (gl : Nat × (Nat → Nat → Prop)) (σ : CS) : Prop := ∀ w np, gl.2 w np → w < 42 ∧ np ≤ 8 ∧ σ.2.2.1 (pR14 b) w = nI np
theorem PrR_k {mk' : Nat} {nc' sz' : Nat} (h : PrR b gl σ) (x : XK b u nc' sz' mk' σ σ') : PrR b gl σ' := fun w np z => by
  have y := h w np z
  refine ⟨y.1, y.2.1, ?_⟩
  have pc := pR_c b
  rw [x.2.1.1 (pR14 b) (by omega)]
  exact y.2.2
/-- what is around an exp -/
def EvX (E : En) (b : Bool) (u al : Nat) (gl : Nat × (Nat → Nat → Prop)) (Vm : Nat → Prop) (tb : List Ent) (σ : CS) : Prop := NmR E u gl Vm tb ∧ PrR b gl σ ∧ (al ≤ 2 ∧ u < 42) ∧ (E.2.2.2.2.1 = true ↔ al = 2) ∧ (E.2.2.2.2.2.1 = true ↔ 1 ≤ al)
/-- bounds: bytes, code, marks, names, slots of iters -/
def BdX (n o q v mk p sz nt : Nat) : Prop := n ≤ 10240 ∧ 2 * sz + 3 * (n - q) + 100 ≤ 73728 ∧ mk ≤ 2 * q + 18 * o ∧ nt + (60 - v) ≤ 256 ∧ p ≤ 3 * v
/-- behind an exp: as before, but further on; code for m values -/
def XSt (T : Nat → Int32) (n : Nat) (b : Bool) (u al : Nat) (gl : Nat × (Nat → Nat → Prop)) (Vm : Nat → Prop) (tb : List Ent) (o mk p sz q m : Nat) (t : Nat × Nat) (τ : CS) : Prop := ∃ cs : List Int32, QS T n b u al tb o t.1 t.2 mk p (sz + cs.length) τ ∧ (∀ i, i < cs.length → cdr b τ (sz + i) = cs.getD i 0) ∧ Sgm u p gl Vm m cs ∧ 2 * cs.length ≤ 3 * (t.1 - q) + 1 ∧ q < t.1
theorem c_takenName {bs : List Int32} (h : QS T n b u al tb o q v mk p sz τ) (hk : tkK T n q = 26) {x : Option Nat} (hx : (tkK T n (tkN T n q) = 0 ∧ x = none) ∨ (¬ tkK T n (tkN T n q) = 0 ∧ x = some (tkN T n q))) : Tm (fun k => f_X5_takenName k 0 L τ) (QPo b u tb.length sz mk x (fun q' y τ' => QS T n b u al tb o q' v mk p sz τ' ∧ ((∃ i, y = nI i ∧ LkI tb (tkS T n q) i) ∨ (y = -1 ∧ LkN tb (tkS T n q)))) τ 0 0) := by
  have s0 := Sx_0 h
  obtain ⟨⟨k1, k2⟩, k3⟩ := h.1.2.2.2.2.2.2.2.2 hk
  refine Tm_suc (fun k => by rw [f_X5_takenName]) ?_
  refine st_adv (C := x = some (tkN T n q)) s0 hx (fun τ' r er c s => ?_)
  rw [c, er]
  refine Tm_oP s.1.2.2.2.2.1.1 ?_
  refine Tm_op (c_found s.1.2.2.2.1 rfl k3 k1 k2) (fun q2 z => ?_)
  rw [z.1]
  exact Tm_some (Qfin s ⟨s.1, z.2⟩)
theorem c_pushQ (h : QS T n b u al tb o q v mk p sz τ) (hv : LitG (L.1 1)) (hm : sz + 2 ≤ 36864) : Tm (fun k => f_X5_push k 0 L τ) (QPo b u tb.length sz mk (some ()) (fun _ _ τ' => ∃ cs : List Int32, cs.length = 2 ∧ QS T n b u al tb o q v mk p (sz + 2) τ' ∧ (∀ i, i < 2 → cdr b τ' (sz + i) = cs.getD i 0) ∧ cs = [em 32 0, L.1 1]) τ 0 0) := by
  have s0 := Sy_0 h
  refine Tm_suc (fun k => by rw [f_X5_push]) ?_
  refine Tm_oP (Sy_pp s0) ?_
  refine st_emit (op := 32) s0 rfl rfl (by show sz + 0 + 1 ≤ _; omega) (fun τ1 n1 n2 s1 => ?_)
  refine Tm_oP (Sy_pp s1) ?_
  refine st_word s1 rfl (by show sz + 1 + 1 ≤ _; omega) (fun τ2 m1 m2 s2 => ?_)
  exact Tm_some (Qfin s2.1 ⟨[em 32 0, L.1 1], rfl, s2.1.1, s2.2, rfl⟩)
end CVF
