/-! The class: the places of unit 41 alone are typed (made by rs559.py). -/
section DZH
variable {c c' c1 c2 : Ct} {u nu p p1 p2 d rk k w n m N N0 vg W F pc op : Nat} {r ms : List Nat} {num : Int32}
/-- c2 has what c1 has of unit 41, and the funcs' entries -/
def RsR (c1 c2 : Ct) : Prop := (∀ p x, tcD c1 p = some x → (x.1 = 41 ∨ x.1 = 141) → tcD c2 p = some x) ∧ tcN c1 = tcN c2 ∧ (∀ v, tcK c1 v → (tcE c1 v = tcE c2 v ∧ tcP c1 v = tcP c2 v) ∧ tcK c2 v ∧ ∀ x, tcD c1 (tcE c1 v) = some x → tcD c2 (tcE c2 v) = some x) ∧ (∀ v, tcF c1 v = tcF c2 v) ∧ True ∧ ∀ i, tcC c1 i = tcC c2 i
theorem rst_D (R : RsR c1 c2) {y : Nat × List Nat × Nat} (e : p1 = p2) (h : tcD c1 p1 = some (41, y)) : tcD c2 p2 = some (41, y) := by
  rw [← e]
  exact R.1 p1 _ h (Or.inl rfl)
theorem rst_D1 (R : RsR c1 c2) {y : Nat × List Nat × Nat} (e : p1 = p2) (h : tcD c1 p1 = some (141, y)) : tcD c2 p2 = some (141, y) := by
  rw [← e]
  exact R.1 p1 _ h (Or.inr rfl)
theorem rst_S (R : RsR c1 c2) (h : tcS c1 41) : tcS c2 41 := absurd rfl h.2
theorem rst_x (R : RsR c1 c2) (e : p1 = p2) (h : Nx c1 p1 41 d r k) : Nx c2 p2 41 d r k := by
  obtain ⟨rk, ⟨d', r', a1, a2, a3⟩, a4, a5⟩ := h
  rw [R.2.2.2.1] at a3 a5
  exact ⟨rk, ⟨d', r', rst_D R e a1, a2, a3⟩, a4, a5⟩
theorem rst_xS (R : RsR c1 c2) (e : p1 = p2) (h : NxS c1 p1 41 d r) : NxS c2 p2 41 d r := by
  obtain ⟨rk, ⟨d', r', a1, a2, a3⟩, a4, a5⟩ := h
  rw [R.2.2.2.1] at a3 a5
  exact ⟨rk, ⟨d', r', rst_D R e a1, a2, a3⟩, a4, a5⟩
theorem rst_xR (R : RsR c1 c2) (e : p1 = p2) (h : NxR c1 p1 41 d r) : NxR c2 p2 41 d r := by
  obtain ⟨rk, a1, a4, a5⟩ := h
  rw [R.2.2.2.1] at a5
  exact ⟨rk, rst_D R e a1, a4, a5⟩
theorem rst_y (R : RsR c1 c2) {x : Int32} (hp : pc < 4294967296) (h : Nx c1 (uN (nI pc + x)) 41 d r k) : Nx c2 (uN (nI pc + x)) 41 d r k := rst_x R rfl h
theorem rst_yS (R : RsR c1 c2) {x : Int32} (hp : pc < 4294967296) (h : NxS c1 (uN (nI pc + x)) 41 d r) : NxS c2 (uN (nI pc + x)) 41 d r := rst_xS R rfl h
theorem rst_c (R : RsR c1 c2) (k : Nat) : tcC c1 (pc + k) = tcC c2 (pc + k) := R.2.2.2.2.2 _
theorem rst_W (R : RsR c1 c2) : ∀ k, Wd (tcC c1) p k = Wd (tcC c2) p k
  | 0 => rfl
  | k + 1 => by
    show Wd (tcC c1) p k + (if tcC c1 (p + k) = 97 then 2 else 1) = Wd (tcC c2) p k + (if tcC c2 (p + k) = 97 then 2 else 1)
    rw [rst_W R k, rst_c R]
theorem rst_0 (R : RsR c1 c2) (h : Ok0 c1 pc 41 d r rk) : Ok0 c2 pc 41 d r rk := by
  obtain ⟨h1, w, ms, h2, h3, h4, h5, h6, h7, h8⟩ := h
  exact absurd h5 (by omega)
theorem rst_1 (R : RsR c1 c2) (hp : pc < 4294967296) (h : Ok1 c1 pc 41 d r rk op num) : Ok1 c2 pc 41 d r rk op num := by
  obtain ⟨h1, h2, h3, h4, h5⟩ := h
  refine ⟨fun e => ⟨rst_S R (h1 e).1, (h1 e).2⟩, fun e => rst_y R hp (h2 e), fun e => ?_, fun e => ?_, fun e => ⟨(h5 e).1, rst_xS R (by omega) (h5 e).2⟩⟩
  · obtain ⟨d', e1, e2, e3⟩ := h3 e
    exact ⟨d', e1, rst_x R (by omega) e2, rst_y R hp e3⟩
  · obtain ⟨d', e1, e2, e3⟩ := h4 e
    exact ⟨d', e1, rst_x R (by omega) e2, rst_yS R hp e3⟩
theorem rst_2 (R : RsR c1 c2) (h : Ok2 c1 pc 41 d r rk op num) : Ok2 c2 pc 41 d r rk op num := by
  obtain ⟨h1, h2, h3, h4, h5, h6, h7, h8, h9, h10, h11⟩ := h
  have eN := R.2.1
  have c1' := rst_c (pc := pc) R 1
  refine ⟨fun e => ?_, fun e => ?_, fun e => ?_, fun e => ⟨(h4 e).1, rst_x R (by omega) (h4 e).2⟩, fun e => ⟨by rw [← R.2.2.2.1]; exact (h5 e).1, rst_x R (by omega) (h5 e).2⟩, fun e => ?_, fun e => ⟨(h7 e).1, rst_x R (by omega) (h7 e).2⟩, fun e => ⟨(h8 e).1, rst_x R (by omega) (h8 e).2⟩, fun e => ⟨(h9 e).1, rst_x R (by omega) (h9 e).2⟩, fun e => ⟨(h10 e).1, rst_x R (by omega) (h10 e).2⟩, fun e => ⟨(h11 e).1, rst_xS R (by omega) (h11 e).2⟩⟩
  · obtain ⟨e1, e2, e3⟩ := h1 e
    rw [c1'] at e2
    exact ⟨by omega, e2, rst_x R (by omega) e3⟩
  · obtain ⟨e1, e2, e3⟩ := h2 e
    rw [c1'] at e2
    exact ⟨by omega, e2, rst_xS R (by omega) e3⟩
  · obtain ⟨e1, e2, e3⟩ := h3 e
    unfold LitC at e2 ⊢
    rw [c1'] at e2
    exact ⟨by omega, e2, rst_xS R (by omega) e3⟩
  · obtain ⟨d', r', e1, e2⟩ := h6 e
    exact ⟨d', r', e1, rst_x R (by omega) e2⟩
theorem rst_3 (R : RsR c1 c2) (h : Ok3 c1 pc 41 d r rk op num) : Ok3 c2 pc 41 d r rk op num := by
  obtain ⟨h1, h2, h3, h4, h5⟩ := h
  refine ⟨fun e => ?_, fun e => ?_, fun e => ?_, fun e => rst_xS R (by omega) (h4 e), fun e => ⟨(h5 e).1, rst_xS R (by omega) (h5 e).2⟩⟩
  · obtain ⟨d', e1, e2, e3⟩ := h1 e
    rw [R.2.2.2.1] at e2
    exact ⟨d', e1, e2, rst_xS R (by omega) e3⟩
  · obtain ⟨d', e1, e3⟩ := h2 e
    exact ⟨d', e1, rst_xS R (by omega) e3⟩
  · obtain ⟨d', e1, e3⟩ := h3 e
    exact ⟨d', e1, rst_xS R (by omega) e3⟩
theorem rst_4 (R : RsR c1 c2) (hp : pc < 4294967296) (h : Ok4 c1 pc 41 d r rk op n) : Ok4 c2 pc 41 d r rk op n := by
  obtain ⟨h64, h65, h66, h67, h68, h6s, h69, h70, h71, h72, h73⟩ := h
  have eN := R.2.1
  have k1 := rst_c (pc := pc) R 1
  have k2 := rst_c (pc := pc) R 2
  have eF := R.2.2.2.1 41
  rw [k1] at h65 h67 h68 h70 h72 h73
  rw [k2] at h73
  rw [eF] at h64 h66 h67 h69 h70 h71 h72 h73
  refine ⟨fun e => ?_, fun e => ?_, fun e => ?_, fun e => ?_, fun e => ?_, fun e => ⟨rst_S R (h6s e).1, (h6s e).2⟩, fun e => ?_, fun e => ?_, fun e => ?_, fun e => ?_, fun e => ?_⟩
  · obtain ⟨d', r', e1, e2, e3, e4, e5, e6⟩ := h64 e
    exact ⟨d', r', e1, e2, e3, e4, e5, rst_x R (by omega) e6⟩
  · obtain ⟨r', e1, e2, e3, e4, e5, e6, e7⟩ := h65 e
    exact ⟨r', e1, e2, e3, by omega, e5, rst_y R hp e6, rst_xS R (by omega) e7⟩
  · obtain ⟨d', r1, r', e1, e2, e3, e4, e5, e6, e7⟩ := h66 e
    exact ⟨d', r1, r', e1, e2, e3, e4, e5, e6, rst_x R (by omega) e7⟩
  · obtain ⟨d', r1, r', e1, e2, e3, e4, e5, e6, e7, e8⟩ := h67 e
    exact ⟨d', r1, r', e1, e2, by omega, e4, e5, e6, e7, rst_x R (by omega) e8⟩
  · obtain ⟨r', e1, e2, e3, e4, e5⟩ := h68 e
    exact ⟨r', by omega, e2, e3, e4, rst_x R (by omega) e5⟩
  · obtain ⟨d', r', e1, e2, e3, e4, e5, e6, e7, e8⟩ := h69 e
    exact ⟨d', r', e1, e2, e3, e4, e5, e6, e7, rst_x R (by omega) e8⟩
  · obtain ⟨r', e1, e2, e3, e4, e5, e6, e7, e8⟩ := h70 e
    exact ⟨r', e1, e2, e3, e4, by omega, e6, rst_y R hp e7, rst_xS R (by omega) e8⟩
  · obtain ⟨d', r', e1, e2, e3, e4, e5, e6⟩ := h71 e
    exact ⟨d', r', e1, e2, e3, e4, e5, rst_x R (by omega) e6⟩
  · obtain ⟨d', r', e1, e2, e3, e4, e5, e6, e7⟩ := h72 e
    exact ⟨d', r', e1, e2, by omega, e4, e5, e6, rst_x R (by omega) e7⟩
  · obtain ⟨r', e1, e2, e3, e4, e5, e6, e7, e8⟩ := h73 e
    exact ⟨r', by omega, e2, e3, e4, e5, e6, e7, rst_x R (by omega) e8⟩
theorem rst_5 (R : RsR c1 c2) (h : Ok5 c1 pc 41 d r rk op num) : Ok5 c2 pc 41 d r rk op num := by
  obtain ⟨h1, h2, h3, h4, h5, h6⟩ := h
  have eF := R.2.2.2.1 41
  rw [eF] at h5
  refine ⟨fun e => ?_, fun e => ?_, fun e => ?_, fun e => ?_, fun e => ?_, fun e => ?_⟩
  · obtain ⟨f, e1, e2, e3⟩ := h1 e
    exact ⟨f, e1, e2, rst_x R (by omega) e3⟩
  · obtain ⟨a, s, e1, e2, e3, e4, e5⟩ := h2 e
    exact ⟨a, s, e1, e2, e3, e4, rst_x R (by omega) e5⟩
  · obtain ⟨a, s, e1, e2, e3, e4, e5⟩ := h3 e
    exact ⟨a, s, e1, e2, e3, e4, rst_x R (by omega) e5⟩
  · obtain ⟨a, s, e1, e2, e3, e4⟩ := h4 e
    exact ⟨a, s, e1, e2, e3, rst_xS R (by omega) e4⟩
  · obtain ⟨d', m, f, e1, e2, e3, e4, e5, e6, e7⟩ := h5 e
    exact ⟨d', m, f, e1, e2, e3, e4, e5, e6, rst_x R (by omega) e7⟩
  · obtain ⟨d', m, f, e1, e2, e3, e4, e5, e7⟩ := h6 e
    exact ⟨d', m, f, e1, e2, e3, e4, e5, rst_x R (by omega) e7⟩
theorem rst_6 (R : RsR c1 c2) (hp : pc < 4294967296) (h : Ok6 c1 pc 41 d r rk op num) : Ok6 c2 pc 41 d r rk op num := by
  obtain ⟨h1, h2, h3, h4, h5⟩ := h
  have eN := R.2.1
  have k1 := rst_c (pc := pc) R 1
  have eF := R.2.2.2.1 41
  rw [eF] at h4
  rw [k1] at h5
  refine ⟨fun e => ?_, fun e => ?_, fun e => ?_, fun e => ?_, fun e => ?_⟩
  · obtain ⟨d', e1, e2⟩ := h1 e
    exact ⟨d', e1, rst_xS R (by omega) e2⟩
  · obtain ⟨d', e1, e2⟩ := h2 e
    exact ⟨d', e1, rst_xS R (by omega) e2⟩
  · obtain ⟨v, s, e1, e2, e3, e4⟩ := h3 e
    exact ⟨v, s, e1, e2, e3, rst_x R (by omega) e4⟩
  · obtain ⟨d0, w, ms, e1, e2, e3, e4, e5⟩ := h4 e
    exact ⟨d0, w, ms, e1, e2, e3, e4, rst_x R (by omega) e5⟩
  · obtain ⟨e1, e2, e3, e4⟩ := h5 e
    exact ⟨e1, by omega, rst_y R hp e3, rst_xS R (by omega) e4⟩
theorem rst_8 (R : RsR c1 c2) (h : Ok8 c1 pc 41 d r rk op num) : Ok8 c2 pc 41 d r rk op num := by
  obtain ⟨P, D, ⟨a1, a2, a3⟩, a4, a5, a6, a7, a8⟩ := h
  have eN := R.2.1
  rw [rst_c (pc := pc) R 2] at a1
  rw [rst_c (pc := pc) R 1] at a2
  rw [rst_W R] at a4
  rw [R.2.2.2.1] at a7
  exact ⟨P, D, ⟨a1, a2, by omega⟩, a4, a5, a6, a7, rst_x R (by omega) a8⟩
theorem rst_9 (R : RsR c1 c2) (h : Ok9 c1 pc 41 d r rk op num) : Ok9 c2 pc 41 d r rk op num := by
  obtain ⟨P, D, ⟨a1, a2, a3⟩, a4, a5, ⟨a6, a6'⟩, a7, a8, a9⟩ := h
  have eN := R.2.1
  rw [rst_c (pc := pc) R 2] at a1
  rw [rst_c (pc := pc) R 1] at a2
  rw [rst_W R] at a4
  rw [R.2.2.2.1] at a8
  exact ⟨P, D, ⟨a1, a2, by omega⟩, a4, a5, ⟨a6, rst_S R a6'⟩, a7, a8, rst_x R (by omega) a9⟩
theorem rst_7 (R : RsR c1 c2) (h : Ok7 c1 pc 41 d r rk op num) : Ok7 c2 pc 41 d r rk op num := by
  obtain ⟨h16, h17, h18, h19, h20, h21, h22, h23, h24⟩ := h
  have k1 := rst_c (pc := pc) R 1
  have eF := R.2.2.2.1
  refine ⟨fun e => ?_, fun e => ?_, fun e => ⟨(h18 e).1, (R.2.2.1 41 (h18 e).2).2.1⟩, fun e => ?_, fun e => ?_, fun e => ?_, fun e => ⟨rst_S R (h22 e).1, (h22 e).2⟩, fun e => ⟨rst_S R (h23 e).1, rst_x R (by omega) (h23 e).2⟩, fun e => ?_⟩
  · obtain ⟨a, s, e1, e2, e3⟩ := h16 e
    exact ⟨a, s, e1, e2, rst_x R (by omega) e3⟩
  · obtain ⟨v, d0, r1, ⟨a1, a2, a3⟩, ⟨b1, b2, b3⟩, b4, ⟨b5, b6⟩, b7, b8, b9, b10⟩ := h17 e
    obtain ⟨⟨x1, x2⟩, x3, x4⟩ := R.2.2.1 v a3
    rw [k1] at b7 b8
    rw [eF] at b4
    rw [x2, eF] at b5
    rw [x2] at b1
    rw [eF] at b6
    obtain ⟨rk', y1, y2, y3⟩ := b10
    rw [eF] at y1 y3
    exact ⟨v, d0, r1, ⟨a1, a2, x3⟩, ⟨b1, b2, b3⟩, b4, ⟨b5, b6⟩, b7, b8, rst_xR R (by omega) b9, rk', x4 _ y1, y2, y3⟩
  · obtain ⟨v, ws, ms, _, _, _, b3, _⟩ := h19 e
    exact absurd rfl b3.2
  · obtain ⟨a1, a2, a3⟩ := h20 e
    exact absurd rfl a2.2
  · obtain ⟨ws, ms, a1, a2, a3, a4, a5⟩ := h21 e
    exact absurd rfl a4.2
  · obtain ⟨d', e1, e2⟩ := h24 e
    exact ⟨d', e1, rst_x R (by omega) e2⟩
theorem rst_I (R : RsR c1 c2) (hp : pc < 4294967296) (h : OKI c1 pc 41 d r rk op num) : OKI c2 pc 41 d r rk op num := by
  obtain ⟨h0, h1, h2, h3, h4, h5, h6, h7, h8, h9, h10, h11, h12, h13, h14⟩ := h
  have eN := R.2.1
  refine ⟨fun e => rst_0 R (h0 e), fun e f => rst_1 R hp (h1 e f), h2, fun e f => ⟨fun z => by have := (h3 e f).1 z; omega, rst_7 R (h3 e f).2⟩, fun e f => rst_2 R (h4 e f), fun e f => rst_3 R (h5 e f), fun e f => ⟨(h6 e f).1, (h6 e f).2.1, rst_4 R hp (h6 e f).2.2⟩, fun e f => rst_5 R (h7 e f), fun e f => rst_6 R hp (h8 e f), fun e f => ?_, fun e f => ?_, fun e => ?_, fun e f => ⟨(h12 e f).1, rst_xS R (by omega) (h12 e f).2⟩, fun e f => rst_8 R (h13 e f), fun e f => rst_9 R (h14 e f)⟩
  · obtain ⟨a1, a2, e0, r1, rk', a3, a4, a5, a6, a7⟩ := h9 e f
    exact ⟨a1, a2, e0, r1, rk', a3, a4, rst_D1 R (by omega) a5, a6, rst_xS R (by omega) a7⟩
  · obtain ⟨d', a1, a2⟩ := h10 e f
    exact ⟨d', a1, rst_xS R (by omega) a2⟩
  · obtain ⟨d', a1, a2, a3⟩ := h11 e
    exact ⟨d', a1, rst_S R a2, rst_x R (by omega) a3⟩
/-- a place of unit 41 that is good -/
theorem rst_P (R : RsR c1 c2) (hb : ∀ x, tcD c2 pc = some x → tcD c1 pc = some x ∧ (x.1 = 41 ∨ x.1 = 141)) (hp : pc < 4294967296) (h : CkP c1 pc) : CkP c2 pc := by
  intro u d r rk e
  obtain ⟨e1, e2⟩ := hb _ e
  obtain ⟨a1, a2, op, a3, a4, a5, a6⟩ := h u d r rk e1
  have eN := R.2.1
  rw [show tcC c1 pc = tcC c2 pc from R.2.2.2.2.2 pc] at a4 a5
  have e2' : u = 41 ∨ u = 141 := e2
  rcases e2' with rfl | rfl
  · exact ⟨by omega, a2, op, a3, a4, fun hu => rst_I R hp (a5 hu), fun hu => absurd hu (by decide)⟩
  · refine ⟨by omega, a2, op, a3, a4, fun hu => absurd hu (by decide), fun hu => ⟨(a6 hu).1, (a6 hu).2.1, fun d' r0 er => ?_⟩⟩
    exact rst_xS R rfl ((a6 hu).2.2 d' r0 er)
end DZH
