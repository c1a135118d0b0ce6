/-! The class: typed code that is moved down stays typed. -/
section DYO
variable {c c' c1 c2 : Ct} {O H : Nat → Prop} {u nu R' p p1 p2 d rk k w n m N N0 vg W F pc op : Nat} {r ms : List Nat} {num : Int32}
theorem u_addm (x y : Int32) : uN (x + y) = (uN x + uN y) % 4294967296 := by
  exact BitVec.toNat_add _ _
/-- c2 is c1 moved down by N0 -/
def ShR (N0 : Nat) (c1 c2 : Ct) : Prop := (∀ p x, tcD c1 p = some x → N0 ≤ p ∧ tcD c2 (p - N0) = some x) ∧ tcN c1 = tcN c2 + N0 ∧ (∀ v, v < 41 → tcE c1 v = tcE c2 v + N0 ∧ tcP c1 v = tcP c2 v) ∧ (∀ v, tcF c1 v = tcF c2 v) ∧ (∀ v, tcK c1 v ↔ tcK c2 v) ∧ ∀ i, tcC c1 (i + N0) = tcC c2 i
theorem mvd_D (R : ShR N0 c1 c2) {x : Nat × Nat × List Nat × Nat} (e : p1 = p2 + N0) (h : tcD c1 p1 = some x) : tcD c2 p2 = some x := by
  have z := (R.1 p1 x h).2
  rw [e, Nat.add_sub_cancel] at z
  exact z
theorem mvd_S (R : ShR N0 c1 c2) (h : tcS c1 u) : tcS c2 u := ⟨fun z => h.1 ((R.2.2.2.2.1 u).2 z), h.2⟩
theorem mvd_x (R : ShR N0 c1 c2) (e : p1 = p2 + N0) (h : Nx c1 p1 u d r k) : Nx c2 p2 u d r k := by
  obtain ⟨rk, ⟨d', r', a1, a2, a3⟩, a4, a5⟩ := h
  rw [R.2.2.2.1] at a3 a5
  exact ⟨rk, ⟨d', r', mvd_D R e a1, a2, a3⟩, a4, a5⟩
theorem mvd_xS (R : ShR N0 c1 c2) (e : p1 = p2 + N0) (h : NxS c1 p1 u d r) : NxS c2 p2 u d r := by
  obtain ⟨rk, ⟨d', r', a1, a2, a3⟩, a4, a5⟩ := h
  rw [R.2.2.2.1] at a3 a5
  exact ⟨rk, ⟨d', r', mvd_D R e a1, a2, a3⟩, a4, a5⟩
theorem mvd_xR (R : ShR N0 c1 c2) (e : p1 = p2 + N0) (h : NxR c1 p1 u d r) : NxR c2 p2 u d r := by
  obtain ⟨rk, a1, a4, a5⟩ := h
  rw [R.2.2.2.1] at a5
  exact ⟨rk, mvd_D R e a1, a4, a5⟩
theorem mvd_j {x : Int32} (hp : pc + N0 < 4294967296) (h : N0 ≤ uN (nI (pc + N0) + x)) : uN (nI (pc + N0) + x) = uN (nI pc + x) + N0 := by
  have l := u_lt x
  rw [u_addm, u_n hp] at h ⊢
  rw [u_addm, u_n (by omega)]
  omega
theorem mvd_y (R : ShR N0 c1 c2) {x : Int32} (hp : pc + N0 < 4294967296) (h : Nx c1 (uN (nI (pc + N0) + x)) u d r k) : Nx c2 (uN (nI pc + x)) u d r k := by
  have h0 := h
  obtain ⟨rk, ⟨d', r', a1, a2, a3⟩, a4, a5⟩ := h
  exact mvd_x R (mvd_j hp (R.1 _ _ a1).1) h0
theorem mvd_yS (R : ShR N0 c1 c2) {x : Int32} (hp : pc + N0 < 4294967296) (h : NxS c1 (uN (nI (pc + N0) + x)) u d r) : NxS c2 (uN (nI pc + x)) u d r := by
  have h0 := h
  obtain ⟨rk, ⟨d', r', a1, a2, a3⟩, a4, a5⟩ := h
  exact mvd_xS R (mvd_j hp (R.1 _ _ a1).1) h0
theorem mvd_c (R : ShR N0 c1 c2) (k : Nat) : tcC c1 (pc + N0 + k) = tcC c2 (pc + k) := by
  rw [show pc + N0 + k = pc + k + N0 by omega]
  exact R.2.2.2.2.2 _
theorem mvd_W (R : ShR N0 c1 c2) : ∀ k, Wd (tcC c1) (p + N0) k = Wd (tcC c2) p k
  | 0 => rfl
  | k + 1 => by
    show Wd (tcC c1) (p + N0) k + (if tcC c1 (p + N0 + k) = 97 then 2 else 1) = Wd (tcC c2) p k + (if tcC c2 (p + k) = 97 then 2 else 1)
    rw [mvd_W R k, mvd_c R]
theorem mvd_0 (R : ShR N0 c1 c2) (h : Ok0 c1 (pc + N0) u d r rk) : Ok0 c2 pc u d r rk := by
  obtain ⟨h1, w, ms, h2, h3, h4, h5, h6, h7, h8⟩ := h
  exact ⟨h1, w, ms, h2, h3, h4, h5, mvd_S R h6, h7, mvd_xS R (by omega) h8⟩
theorem mvd_1 (R : ShR N0 c1 c2) (hp : pc + N0 < 4294967296) (h : Ok1 c1 (pc + N0) u d r rk op num) : Ok1 c2 pc u d r rk op num := by
  obtain ⟨h1, h2, h3, h4, h5⟩ := h
  refine ⟨fun e => ⟨mvd_S R (h1 e).1, (h1 e).2⟩, fun e => mvd_y R hp (h2 e), fun e => ?_, fun e => ?_, fun e => ⟨(h5 e).1, mvd_xS R (by omega) (h5 e).2⟩⟩
  · obtain ⟨d', e1, e2, e3⟩ := h3 e
    exact ⟨d', e1, mvd_x R (by omega) e2, mvd_y R hp e3⟩
  · obtain ⟨d', e1, e2, e3⟩ := h4 e
    exact ⟨d', e1, mvd_x R (by omega) e2, mvd_yS R hp e3⟩
theorem mvd_2 (R : ShR N0 c1 c2) (h : Ok2 c1 (pc + N0) u d r rk op num) : Ok2 c2 pc u d r rk op num := by
  obtain ⟨h1, h2, h3, h4, h5, h6, h7, h8, h9, h10, h11⟩ := h
  have eN := R.2.1
  have c1' := mvd_c (pc := pc) R 1
  refine ⟨fun e => ?_, fun e => ?_, fun e => ?_, fun e => ⟨(h4 e).1, mvd_x R (by omega) (h4 e).2⟩, fun e => ⟨by rw [← R.2.2.2.1]; exact (h5 e).1, mvd_x R (by omega) (h5 e).2⟩, fun e => ?_, fun e => ⟨(h7 e).1, mvd_x R (by omega) (h7 e).2⟩, fun e => ⟨(h8 e).1, mvd_x R (by omega) (h8 e).2⟩, fun e => ⟨(h9 e).1, mvd_x R (by omega) (h9 e).2⟩, fun e => ⟨(h10 e).1, mvd_x R (by omega) (h10 e).2⟩, fun e => ⟨(h11 e).1, mvd_xS R (by omega) (h11 e).2⟩⟩
  · obtain ⟨e1, e2, e3⟩ := h1 e
    rw [c1'] at e2
    exact ⟨by omega, e2, mvd_x R (by omega) e3⟩
  · obtain ⟨e1, e2, e3⟩ := h2 e
    rw [c1'] at e2
    exact ⟨by omega, e2, mvd_xS R (by omega) e3⟩
  · obtain ⟨e1, e2, e3⟩ := h3 e
    unfold LitC at e2 ⊢
    rw [c1'] at e2
    exact ⟨by omega, e2, mvd_xS R (by omega) e3⟩
  · obtain ⟨d', r', e1, e2⟩ := h6 e
    exact ⟨d', r', e1, mvd_x R (by omega) e2⟩
theorem mvd_3 (R : ShR N0 c1 c2) (h : Ok3 c1 (pc + N0) u d r rk op num) : Ok3 c2 pc u d r rk op num := by
  obtain ⟨h1, h2, h3, h4, h5⟩ := h
  refine ⟨fun e => ?_, fun e => ?_, fun e => ?_, fun e => mvd_xS R (by omega) (h4 e), fun e => ⟨(h5 e).1, mvd_xS R (by omega) (h5 e).2⟩⟩
  · obtain ⟨d', e1, e2, e3⟩ := h1 e
    rw [R.2.2.2.1] at e2
    exact ⟨d', e1, e2, mvd_xS R (by omega) e3⟩
  · obtain ⟨d', e1, e3⟩ := h2 e
    exact ⟨d', e1, mvd_xS R (by omega) e3⟩
  · obtain ⟨d', e1, e3⟩ := h3 e
    exact ⟨d', e1, mvd_xS R (by omega) e3⟩
theorem mvd_4 (R : ShR N0 c1 c2) (hp : pc + N0 < 4294967296) (h : Ok4 c1 (pc + N0) u d r rk op n) : Ok4 c2 pc u d r rk op n := by
  obtain ⟨h64, h65, h66, h67, h68, h6s, h69, h70, h71, h72, h73⟩ := h
  have eN := R.2.1
  have k1 := mvd_c (pc := pc) R 1
  have k2 := mvd_c (pc := pc) R 2
  have eF := R.2.2.2.1 u
  rw [k1] at h65 h67 h68 h70 h72 h73
  rw [k2] at h73
  rw [eF] at h64 h66 h67 h69 h70 h71 h72 h73
  refine ⟨fun e => ?_, fun e => ?_, fun e => ?_, fun e => ?_, fun e => ?_, fun e => ⟨mvd_S R (h6s e).1, (h6s e).2⟩, fun e => ?_, fun e => ?_, fun e => ?_, fun e => ?_, fun e => ?_⟩
  · obtain ⟨d', r', e1, e2, e3, e4, e5, e6⟩ := h64 e
    exact ⟨d', r', e1, e2, e3, e4, e5, mvd_x R (by omega) e6⟩
  · obtain ⟨r', e1, e2, e3, e4, e5, e6, e7⟩ := h65 e
    exact ⟨r', e1, e2, e3, by omega, e5, mvd_y R hp e6, mvd_xS R (by omega) e7⟩
  · obtain ⟨d', r1, r', e1, e2, e3, e4, e5, e6, e7⟩ := h66 e
    exact ⟨d', r1, r', e1, e2, e3, e4, e5, e6, mvd_x R (by omega) e7⟩
  · obtain ⟨d', r1, r', e1, e2, e3, e4, e5, e6, e7, e8⟩ := h67 e
    exact ⟨d', r1, r', e1, e2, by omega, e4, e5, e6, e7, mvd_x R (by omega) e8⟩
  · obtain ⟨r', e1, e2, e3, e4, e5⟩ := h68 e
    exact ⟨r', by omega, e2, e3, e4, mvd_x R (by omega) e5⟩
  · obtain ⟨d', r', e1, e2, e3, e4, e5, e6, e7, e8⟩ := h69 e
    exact ⟨d', r', e1, e2, e3, e4, e5, e6, e7, mvd_x R (by omega) e8⟩
  · obtain ⟨r', e1, e2, e3, e4, e5, e6, e7, e8⟩ := h70 e
    exact ⟨r', e1, e2, e3, e4, by omega, e6, mvd_y R hp e7, mvd_xS R (by omega) e8⟩
  · obtain ⟨d', r', e1, e2, e3, e4, e5, e6⟩ := h71 e
    exact ⟨d', r', e1, e2, e3, e4, e5, mvd_x R (by omega) e6⟩
  · obtain ⟨d', r', e1, e2, e3, e4, e5, e6, e7⟩ := h72 e
    exact ⟨d', r', e1, e2, by omega, e4, e5, e6, mvd_x R (by omega) e7⟩
  · obtain ⟨r', e1, e2, e3, e4, e5, e6, e7, e8⟩ := h73 e
    exact ⟨r', by omega, e2, e3, e4, e5, e6, e7, mvd_x R (by omega) e8⟩
theorem mvd_5 (R : ShR N0 c1 c2) (h : Ok5 c1 (pc + N0) u d r rk op num) : Ok5 c2 pc u d r rk op num := by
  obtain ⟨h1, h2, h3, h4, h5, h6⟩ := h
  have eF := R.2.2.2.1 u
  rw [eF] at h5
  refine ⟨fun e => ?_, fun e => ?_, fun e => ?_, fun e => ?_, fun e => ?_, fun e => ?_⟩
  · obtain ⟨f, e1, e2, e3⟩ := h1 e
    exact ⟨f, e1, e2, mvd_x R (by omega) e3⟩
  · obtain ⟨a, s, e1, e2, e3, e4, e5⟩ := h2 e
    exact ⟨a, s, e1, e2, e3, e4, mvd_x R (by omega) e5⟩
  · obtain ⟨a, s, e1, e2, e3, e4, e5⟩ := h3 e
    exact ⟨a, s, e1, e2, e3, e4, mvd_x R (by omega) e5⟩
  · obtain ⟨a, s, e1, e2, e3, e4⟩ := h4 e
    exact ⟨a, s, e1, e2, e3, mvd_xS R (by omega) e4⟩
  · obtain ⟨d', m, f, e1, e2, e3, e4, e5, e6, e7⟩ := h5 e
    exact ⟨d', m, f, e1, e2, e3, e4, e5, e6, mvd_x R (by omega) e7⟩
  · obtain ⟨d', m, f, e1, e2, e3, e4, e5, e7⟩ := h6 e
    exact ⟨d', m, f, e1, e2, e3, e4, e5, mvd_x R (by omega) e7⟩
theorem mvd_6 (R : ShR N0 c1 c2) (hp : pc + N0 < 4294967296) (h : Ok6 c1 (pc + N0) u d r rk op num) : Ok6 c2 pc u d r rk op num := by
  obtain ⟨h1, h2, h3, h4, h5⟩ := h
  have eN := R.2.1
  have k1 := mvd_c (pc := pc) R 1
  have eF := R.2.2.2.1 u
  rw [eF] at h4
  rw [k1] at h5
  refine ⟨fun e => ?_, fun e => ?_, fun e => ?_, fun e => ?_, fun e => ?_⟩
  · obtain ⟨d', e1, e2⟩ := h1 e
    exact ⟨d', e1, mvd_xS R (by omega) e2⟩
  · obtain ⟨d', e1, e2⟩ := h2 e
    exact ⟨d', e1, mvd_xS R (by omega) e2⟩
  · obtain ⟨v, s, e1, e2, e3, e4⟩ := h3 e
    exact ⟨v, s, e1, e2, e3, mvd_x R (by omega) e4⟩
  · obtain ⟨d0, w, ms, e1, e2, e3, e4, e5⟩ := h4 e
    exact ⟨d0, w, ms, e1, e2, e3, e4, mvd_x R (by omega) e5⟩
  · obtain ⟨e1, e2, e3, e4⟩ := h5 e
    exact ⟨e1, by omega, mvd_y R hp e3, mvd_xS R (by omega) e4⟩
theorem mvd_7 (R : ShR N0 c1 c2) (hu : u < 42) (h : Ok7 c1 (pc + N0) u d r rk op num) : Ok7 c2 pc u d r rk op num := by
  obtain ⟨h16, h17, h18, h19, h20, h21, h22, h23, h24⟩ := h
  have k1 := mvd_c (pc := pc) R 1
  have eF := R.2.2.2.1
  refine ⟨fun e => ?_, fun e => ?_, fun e => ⟨(h18 e).1, (R.2.2.2.2.1 u).1 (h18 e).2⟩, fun e => ?_, fun e => ?_, fun e => ?_, fun e => ⟨mvd_S R (h22 e).1, (h22 e).2⟩, fun e => ⟨mvd_S R (h23 e).1, mvd_x R (by omega) (h23 e).2⟩, fun e => ?_⟩
  · obtain ⟨a, s, e1, e2, e3⟩ := h16 e
    exact ⟨a, s, e1, e2, mvd_x R (by omega) e3⟩
  · obtain ⟨v, d0, r1, ⟨a1, a2, a3⟩, ⟨b1, b2, b3⟩, b4, ⟨b5, b6⟩, b7, b8, b9, b10⟩ := h17 e
    obtain ⟨x1, x2⟩ := R.2.2.1 v a2
    rw [k1] at b7 b8
    rw [eF] at b4
    rw [x2, eF] at b5
    rw [x2] at b1
    rw [eF] at b6 b10
    exact ⟨v, d0, r1, ⟨a1, a2, (R.2.2.2.2.1 v).1 a3⟩, ⟨b1, b2, b3⟩, b4, ⟨b5, b6⟩, b7, b8, mvd_xR R (by omega) b9, mvd_xR R x1 b10⟩
  · obtain ⟨v, ws, ms, ⟨a1, ⟨a2, a3⟩, a4⟩, a5, ⟨b1, b2⟩, b3, b4, b5, ⟨b6, b7⟩, rb, b8, b9, rk', b10, b11⟩ := h19 e
    obtain ⟨x1, x2⟩ := R.2.2.1 v a3
    rw [x2] at b2 b6 b8
    rw [eF] at b5 b6 b7 b10
    exact ⟨v, ws, ms, ⟨a1, ⟨a2, a3⟩, mvd_S R a4⟩, a5, ⟨b1, b2⟩, mvd_S R b3, b4, b5, ⟨b6, b7⟩, rb, mvd_D R (by omega) b8, b9, rk', mvd_D R x1 b10, b11⟩
  · obtain ⟨a1, a2, a3, a4, a5⟩ := h20 e
    have u41 := a2.2
    rw [(R.2.2.1 u (by omega)).2] at a5
    exact ⟨a1, mvd_S R a2, a3, a4, a5⟩
  · obtain ⟨ws, ms, a1, a2, a3, a4, a5, a6, a7, a8⟩ := h21 e
    exact ⟨ws, ms, a1, a2, a3, mvd_S R a4, a5, a6, mvd_x R (by omega) a7, mvd_xR R (by omega) a8⟩
  · obtain ⟨d', e1, e2⟩ := h24 e
    exact ⟨d', e1, mvd_x R (by omega) e2⟩
theorem mvd_8 (R : ShR N0 c1 c2) (h : Ok8 c1 (pc + N0) u d r rk op num) : Ok8 c2 pc u d r rk op num := by
  obtain ⟨P, D, ⟨a1, a2, a3⟩, a4, a5, a6, a7, a8⟩ := h
  have eN := R.2.1
  rw [mvd_c (pc := pc) R 2] at a1
  rw [mvd_c (pc := pc) R 1] at a2
  rw [show pc + N0 + 3 = pc + 3 + N0 by omega, mvd_W R] at a4
  rw [R.2.2.2.1] at a7
  exact ⟨P, D, ⟨a1, a2, by omega⟩, a4, a5, a6, a7, mvd_x R (by omega) a8⟩
theorem mvd_9 (R : ShR N0 c1 c2) (h : Ok9 c1 (pc + N0) u d r rk op num) : Ok9 c2 pc u d r rk op num := by
  obtain ⟨P, D, ⟨a1, a2, a3⟩, a4, a5, ⟨a6, a6'⟩, a7, a8, a9⟩ := h
  have eN := R.2.1
  rw [mvd_c (pc := pc) R 2] at a1
  rw [mvd_c (pc := pc) R 1] at a2
  rw [show pc + N0 + 3 = pc + 3 + N0 by omega, mvd_W R] at a4
  rw [R.2.2.2.1] at a8
  exact ⟨P, D, ⟨a1, a2, by omega⟩, a4, a5, ⟨a6, mvd_S R a6'⟩, a7, a8, mvd_x R (by omega) a9⟩
theorem mvd_I (R : ShR N0 c1 c2) (hp : pc + N0 < 4294967296) (hu : u < 42) (h : OKI c1 (pc + N0) u d r rk op num) : OKI c2 pc u d r rk op num := by
  obtain ⟨h0, h1, h2, h3, h4, h5, h6, h7, h8, h9, h10, h11, h12, h13, h14⟩ := h
  have eN := R.2.1
  refine ⟨fun e => mvd_0 R (h0 e), fun e f => mvd_1 R hp (h1 e f), h2, fun e f => ⟨fun z => by have := (h3 e f).1 z; omega, mvd_7 R hu (h3 e f).2⟩, fun e f => mvd_2 R (h4 e f), fun e f => mvd_3 R (h5 e f), fun e f => ⟨(h6 e f).1, (h6 e f).2.1, mvd_4 R hp (h6 e f).2.2⟩, fun e f => mvd_5 R (h7 e f), fun e f => mvd_6 R hp (h8 e f), fun e f => ?_, fun e f => ?_, fun e => ?_, fun e f => ⟨(h12 e f).1, mvd_xS R (by omega) (h12 e f).2⟩, fun e f => mvd_8 R (h13 e f), fun e f => mvd_9 R (h14 e f)⟩
  · obtain ⟨a1, a2, e0, r1, rk', a3, a4, a5, a6, a7⟩ := h9 e f
    exact ⟨a1, a2, e0, r1, rk', a3, a4, mvd_D R (by omega) a5, a6, mvd_xS R (by omega) a7⟩
  · obtain ⟨d', a1, a2⟩ := h10 e f
    exact ⟨d', a1, mvd_xS R (by omega) a2⟩
  · obtain ⟨d', a1, a2, a3⟩ := h11 e
    exact ⟨d', a1, mvd_S R a2, mvd_x R (by omega) a3⟩
/-- a place that is good -/
theorem mvd_P (R : ShR N0 c1 c2) (hb : ∀ x, tcD c2 pc = some x → tcD c1 (pc + N0) = some x) (hp : pc + N0 < 4294967296) (h : CkP c1 (pc + N0)) : CkP c2 pc := by
  intro u d r rk e
  obtain ⟨a1, a2, op, a3, a4, a5, a6⟩ := h u d r rk (hb _ e)
  have eN := R.2.1
  rw [show tcC c1 (pc + N0) = tcC c2 pc from R.2.2.2.2.2 pc] at a4 a5
  refine ⟨by omega, a2, op, a3, a4, fun hu => mvd_I R hp hu (a5 hu), fun hu => ⟨(a6 hu).1, (a6 hu).2.1, fun d' r0 er => mvd_xS R (by omega) ((a6 hu).2.2 d' r0 er)⟩⟩
/-- code moved down -/
def dnC (c : Ct) (N0 : Nat) (E P F : Nat → Nat) : Ct := (fun i => tcC c (i + N0), tcN c - N0, E, P, F, tcK c, fun p => tcD c (p + N0))
/-- a code seen from N0 on -/
def upC (c c' : Ct) (N0 : Nat) : Ct := (fun i => tcC c' (i - N0), tcN c' + N0, fun v => if v = 41 then tcE c 41 else tcE c' v + N0, fun v => if v = 41 then tcP c 41 else tcP c' v, tcF c', tcK c', fun p => if p < N0 then none else tcD c' (p - N0))
theorem up_R (c c' : Ct) (N0 : Nat) : ShR N0 (upC c c' N0) c' := by
  refine ⟨fun p x e => ?_, rfl, fun v hv => ⟨?_, ?_⟩, fun _ => rfl, fun _ => Iff.rfl, fun i => ?_⟩
  · have e' : (if p < N0 then none else tcD c' (p - N0)) = some x := e
    by_cases z : p < N0
    · rw [if_pos z] at e'; cases e'
    · rw [if_neg z] at e'
      exact ⟨by omega, e'⟩
  · show (if v = 41 then tcE c 41 else tcE c' v + N0) = _
    rw [if_neg (by omega)]
  · show (if v = 41 then tcP c 41 else tcP c' v) = _
    rw [if_neg (by omega)]
  · show tcC c' (i + N0 - N0) = _
    rw [Nat.add_sub_cancel]
/-- typed code moved down is typed; entries and params of the told units as they were -/
theorem TI_dn {E P F : Nat → Nat} (t : TI noP noP nu RK c) (h0 : ∀ p x, tcD c p = some x → N0 ≤ p) (hN : N0 ≤ tcN c) (hE : ∀ v, 1 ≤ v → v ≤ nu → tcE c v = E v + N0 ∧ tcP c v = P v ∧ tcF c v = F v) (hF : tcF c 0 = F 0 ∧ tcF c 41 = F 41) (hn : nu < 41) : TI noP noP nu RK (dnC c N0 E P F) := by
  obtain ⟨t1, t2, th, t3, t4⟩ := t
  refine ⟨by show tcN c - N0 ≤ 36864; omega, fun p o => o.elim, fun h o => o.elim, fun p hp => t3 (p + N0) (by have : tcN c - N0 < p := hp; omega), fun pc x e hpc => ?_⟩
  have hpc' : pc < tcN c - N0 := hpc
  rcases t4 (pc + N0) x e (by omega) with z | ⟨ln, Rp, z1, z2, z3, z4, z5⟩
  · exact z.elim
  · refine Or.inr ⟨ln, Rp, z1, by show pc + ln ≤ tcN c - N0; omega, z3, fun h o => o.elim, fun c' a hc _ => ?_⟩
    have cg : CtG noP (x.1 % 100) nu c (upC c c' N0) := by
      obtain ⟨g1, g2, g3, ⟨g4, g5⟩, g6⟩ := a
      have g1' : tcN c - N0 ≤ tcN c' := g1
      refine ⟨by show tcN c ≤ tcN c' + N0; omega, fun v hv => ?_, fun v hv => g3 v hv, ⟨?_, fun e0 => ?_⟩, fun p y ey => ⟨fun _ => ?_, fun o => o.elim⟩⟩
      · obtain ⟨k1, k2, k3⟩ := g2 v hv
        rcases hv with hv | hv
        · obtain ⟨m1, m2, m3⟩ := hE v hv.1 hv.2
          refine ⟨?_, ?_, ?_⟩
          · show (if v = 41 then tcE c 41 else tcE c' v + N0) = _
            rw [if_neg (by omega), k1, m1]; rfl
          · show (if v = 41 then tcP c 41 else tcP c' v) = _
            rw [if_neg (by omega), k2, m2]; rfl
          · show tcF c' v = _
            rw [k3, m3]; rfl
        · refine ⟨?_, ?_, ?_⟩
          · show (if v = 41 then tcE c 41 else tcE c' v + N0) = _
            rw [if_pos hv, hv]
          · show (if v = 41 then tcP c 41 else tcP c' v) = _
            rw [if_pos hv, hv]
          · show tcF c' v = _
            rw [k3, hv, hF.2]; rfl
      · show tcF c 0 ≤ tcF c' 0
        rw [hF.1]; exact g4
      · show tcF c' 0 = tcF c 0
        rw [hF.1]; exact g5 e0
      · show (if p < N0 then none else tcD c' (p - N0)) = some y
        have l := h0 p y ey
        rw [if_neg (by omega)]
        refine (g6 (p - N0) y ?_).1 id
        show tcD c (p - N0 + N0) = some y
        rw [Nat.sub_add_cancel l]
        exact ey
    refine mvd_P (up_R c c' N0) (fun y ey => ?_) (by omega) (z5 _ cg (fun i i1 i2 => ?_) (fun p x o _ => o.elim))
    · show (if pc + N0 < N0 then none else tcD c' (pc + N0 - N0)) = some y
      rw [if_neg (by omega), Nat.add_sub_cancel]
      exact ey
    · show tcC c' (i - N0) = _
      rw [hc (i - N0) (by omega) (by omega)]
      show tcC c (i - N0 + N0) = _
      rw [Nat.sub_add_cancel (by omega)]
end DYO
