section JnS559
/-! The class: the places of unit 41 alone are typed (made by rs559.py). -/
section DZH
variable {c c' c1 c2 : Ct} {u nu p p1 p2 d rk k w n m N N0 vg W F pc op : Nat} {r ms : List Nat} {num : Int32}
/-- c2 has what c1 has of unit 41, and the funcs' entries -/
def RsR (c1 c2 : Ct) : Prop := (∀ p x, tcD c1 p = some x → (x.1 = 41 ∨ x.1 = 141) → tcD c2 p = some x) ∧ tcN c1 = tcN c2 ∧ (∀ v, tcK c1 v → (tcE c1 v = tcE c2 v ∧ tcP c1 v = tcP c2 v) ∧ tcK c2 v ∧ ∀ x, tcD c1 (tcE c1 v) = some x → tcD c2 (tcE c2 v) = some x) ∧ (∀ v, tcF c1 v = tcF c2 v) ∧ True ∧ ∀ i, tcC c1 i = tcC c2 i
theorem rst_D (R : RsR c1 c2) {y : Nat × List Nat × Nat} (e : p1 = p2) (h : tcD c1 p1 = some (41, y)) : tcD c2 p2 = some (41, y) := by
  rw [← e]
  exact R.1 p1 _ h (Or.inl rfl)
theorem rst_D1 (R : RsR c1 c2) {y : Nat × List Nat × Nat} (e : p1 = p2) (h : tcD c1 p1 = some (141, y)) : tcD c2 p2 = some (141, y) := by
  rw [← e]
  exact R.1 p1 _ h (Or.inr rfl)
theorem rst_S (R : RsR c1 c2) (h : tcS c1 41) : tcS c2 41 := absurd rfl h.2
theorem rst_x (R : RsR c1 c2) (e : p1 = p2) (h : Nx c1 p1 41 d r k) : Nx c2 p2 41 d r k := by
  obtain ⟨rk, ⟨d', r', a1, a2, a3⟩, a4, a5⟩ := h
  rw [R.2.2.2.1] at a3 a5
  exact ⟨rk, ⟨d', r', rst_D R e a1, a2, a3⟩, a4, a5⟩
theorem rst_xS (R : RsR c1 c2) (e : p1 = p2) (h : NxS c1 p1 41 d r) : NxS c2 p2 41 d r := by
  obtain ⟨rk, ⟨d', r', a1, a2, a3⟩, a4, a5⟩ := h
  rw [R.2.2.2.1] at a3 a5
  exact ⟨rk, ⟨d', r', rst_D R e a1, a2, a3⟩, a4, a5⟩
theorem rst_xR (R : RsR c1 c2) (e : p1 = p2) (h : NxR c1 p1 41 d r) : NxR c2 p2 41 d r := by
  obtain ⟨rk, a1, a4, a5⟩ := h
  rw [R.2.2.2.1] at a5
  exact ⟨rk, rst_D R e a1, a4, a5⟩
theorem rst_y (R : RsR c1 c2) {x : Int32} (hp : pc < 4294967296) (h : Nx c1 (uN (nI pc + x)) 41 d r k) : Nx c2 (uN (nI pc + x)) 41 d r k := rst_x R rfl h
theorem rst_yS (R : RsR c1 c2) {x : Int32} (hp : pc < 4294967296) (h : NxS c1 (uN (nI pc + x)) 41 d r) : NxS c2 (uN (nI pc + x)) 41 d r := rst_xS R rfl h
theorem rst_c (R : RsR c1 c2) (k : Nat) : tcC c1 (pc + k) = tcC c2 (pc + k) := R.2.2.2.2.2 _
theorem rst_W (R : RsR c1 c2) : ∀ k, Wd (tcC c1) p k = Wd (tcC c2) p k
  | 0 => rfl
  | k + 1 => by
    show Wd (tcC c1) p k + (if tcC c1 (p + k) = 97 then 2 else 1) = Wd (tcC c2) p k + (if tcC c2 (p + k) = 97 then 2 else 1)
    rw [rst_W R k, rst_c R]
theorem rst_0 (R : RsR c1 c2) (h : Ok0 c1 pc 41 d r rk) : Ok0 c2 pc 41 d r rk := by
  obtain ⟨h1, w, ms, h2, h3, h4, h5, h6, h7, h8⟩ := h
  exact absurd h5 (by omega)
theorem rst_1 (R : RsR c1 c2) (hp : pc < 4294967296) (h : Ok1 c1 pc 41 d r rk op num) : Ok1 c2 pc 41 d r rk op num := by
  obtain ⟨h1, h2, h3, h4, h5⟩ := h
  refine ⟨fun e => ⟨rst_S R (h1 e).1, (h1 e).2⟩, fun e => rst_y R hp (h2 e), fun e => ?_, fun e => ?_, fun e => ⟨(h5 e).1, rst_xS R (by omega) (h5 e).2⟩⟩
  · obtain ⟨d', e1, e2, e3⟩ := h3 e
    exact ⟨d', e1, rst_x R (by omega) e2, rst_y R hp e3⟩
  · obtain ⟨d', e1, e2, e3⟩ := h4 e
    exact ⟨d', e1, rst_x R (by omega) e2, rst_yS R hp e3⟩
theorem rst_2 (R : RsR c1 c2) (h : Ok2 c1 pc 41 d r rk op num) : Ok2 c2 pc 41 d r rk op num := by
  obtain ⟨h1, h2, h3, h4, h5, h6, h7, h8, h9, h10, h11⟩ := h
  have eN := R.2.1
  have c1' := rst_c (pc := pc) R 1
  refine ⟨fun e => ?_, fun e => ?_, fun e => ?_, fun e => ⟨(h4 e).1, rst_x R (by omega) (h4 e).2⟩, fun e => ⟨by rw [← R.2.2.2.1]; exact (h5 e).1, rst_x R (by omega) (h5 e).2⟩, fun e => ?_, fun e => ⟨(h7 e).1, rst_x R (by omega) (h7 e).2⟩, fun e => ⟨(h8 e).1, rst_x R (by omega) (h8 e).2⟩, fun e => ⟨(h9 e).1, rst_x R (by omega) (h9 e).2⟩, fun e => ⟨(h10 e).1, rst_x R (by omega) (h10 e).2⟩, fun e => ⟨(h11 e).1, rst_xS R (by omega) (h11 e).2⟩⟩
  · obtain ⟨e1, e2, e3⟩ := h1 e
    rw [c1'] at e2
    exact ⟨by omega, e2, rst_x R (by omega) e3⟩
  · obtain ⟨e1, e2, e3⟩ := h2 e
    rw [c1'] at e2
    exact ⟨by omega, e2, rst_xS R (by omega) e3⟩
  · obtain ⟨e1, e2, e3⟩ := h3 e
    unfold LitC at e2 ⊢
    rw [c1'] at e2
    exact ⟨by omega, e2, rst_xS R (by omega) e3⟩
  · obtain ⟨d', r', e1, e2⟩ := h6 e
    exact ⟨d', r', e1, rst_x R (by omega) e2⟩
theorem rst_3 (R : RsR c1 c2) (h : Ok3 c1 pc 41 d r rk op num) : Ok3 c2 pc 41 d r rk op num := by
  obtain ⟨h1, h2, h3, h4, h5⟩ := h
  refine ⟨fun e => ?_, fun e => ?_, fun e => ?_, fun e => rst_xS R (by omega) (h4 e), fun e => ⟨(h5 e).1, rst_xS R (by omega) (h5 e).2⟩⟩
  · obtain ⟨d', e1, e2, e3⟩ := h1 e
    rw [R.2.2.2.1] at e2
    exact ⟨d', e1, e2, rst_xS R (by omega) e3⟩
  · obtain ⟨d', e1, e3⟩ := h2 e
    exact ⟨d', e1, rst_xS R (by omega) e3⟩
  · obtain ⟨d', e1, e3⟩ := h3 e
    exact ⟨d', e1, rst_xS R (by omega) e3⟩
theorem rst_4 (R : RsR c1 c2) (hp : pc < 4294967296) (h : Ok4 c1 pc 41 d r rk op n) : Ok4 c2 pc 41 d r rk op n := by
  obtain ⟨h64, h65, h66, h67, h68, h6s, h69, h70, h71, h72, h73⟩ := h
  have eN := R.2.1
  have k1 := rst_c (pc := pc) R 1
  have k2 := rst_c (pc := pc) R 2
  have eF := R.2.2.2.1 41
  rw [k1] at h65 h67 h68 h70 h72 h73
  rw [k2] at h73
  rw [eF] at h64 h66 h67 h69 h70 h71 h72 h73
  refine ⟨fun e => ?_, fun e => ?_, fun e => ?_, fun e => ?_, fun e => ?_, fun e => ⟨rst_S R (h6s e).1, (h6s e).2⟩, fun e => ?_, fun e => ?_, fun e => ?_, fun e => ?_, fun e => ?_⟩
  · obtain ⟨d', r', e1, e2, e3, e4, e5, e6⟩ := h64 e
    exact ⟨d', r', e1, e2, e3, e4, e5, rst_x R (by omega) e6⟩
  · obtain ⟨r', e1, e2, e3, e4, e5, e6, e7⟩ := h65 e
    exact ⟨r', e1, e2, e3, by omega, e5, rst_y R hp e6, rst_xS R (by omega) e7⟩
  · obtain ⟨d', r1, r', e1, e2, e3, e4, e5, e6, e7⟩ := h66 e
    exact ⟨d', r1, r', e1, e2, e3, e4, e5, e6, rst_x R (by omega) e7⟩
  · obtain ⟨d', r1, r', e1, e2, e3, e4, e5, e6, e7, e8⟩ := h67 e
    exact ⟨d', r1, r', e1, e2, by omega, e4, e5, e6, e7, rst_x R (by omega) e8⟩
  · obtain ⟨r', e1, e2, e3, e4, e5⟩ := h68 e
    exact ⟨r', by omega, e2, e3, e4, rst_x R (by omega) e5⟩
  · obtain ⟨d', r', e1, e2, e3, e4, e5, e6, e7, e8⟩ := h69 e
    exact ⟨d', r', e1, e2, e3, e4, e5, e6, e7, rst_x R (by omega) e8⟩
  · obtain ⟨r', e1, e2, e3, e4, e5, e6, e7, e8⟩ := h70 e
    exact ⟨r', e1, e2, e3, e4, by omega, e6, rst_y R hp e7, rst_xS R (by omega) e8⟩
  · obtain ⟨d', r', e1, e2, e3, e4, e5, e6⟩ := h71 e
    exact ⟨d', r', e1, e2, e3, e4, e5, rst_x R (by omega) e6⟩
  · obtain ⟨d', r', e1, e2, e3, e4, e5, e6, e7⟩ := h72 e
    exact ⟨d', r', e1, e2, by omega, e4, e5, e6, rst_x R (by omega) e7⟩
  · obtain ⟨r', e1, e2, e3, e4, e5, e6, e7, e8⟩ := h73 e
    exact ⟨r', by omega, e2, e3, e4, e5, e6, e7, rst_x R (by omega) e8⟩
theorem rst_5 (R : RsR c1 c2) (h : Ok5 c1 pc 41 d r rk op num) : Ok5 c2 pc 41 d r rk op num := by
  obtain ⟨h1, h2, h3, h4, h5, h6⟩ := h
  have eF := R.2.2.2.1 41
  rw [eF] at h5
  refine ⟨fun e => ?_, fun e => ?_, fun e => ?_, fun e => ?_, fun e => ?_, fun e => ?_⟩
  · obtain ⟨f, e1, e2, e3⟩ := h1 e
    exact ⟨f, e1, e2, rst_x R (by omega) e3⟩
  · obtain ⟨a, s, e1, e2, e3, e4, e5⟩ := h2 e
    exact ⟨a, s, e1, e2, e3, e4, rst_x R (by omega) e5⟩
  · obtain ⟨a, s, e1, e2, e3, e4, e5⟩ := h3 e
    exact ⟨a, s, e1, e2, e3, e4, rst_x R (by omega) e5⟩
  · obtain ⟨a, s, e1, e2, e3, e4⟩ := h4 e
    exact ⟨a, s, e1, e2, e3, rst_xS R (by omega) e4⟩
  · obtain ⟨d', m, f, e1, e2, e3, e4, e5, e6, e7⟩ := h5 e
    exact ⟨d', m, f, e1, e2, e3, e4, e5, e6, rst_x R (by omega) e7⟩
  · obtain ⟨d', m, f, e1, e2, e3, e4, e5, e7⟩ := h6 e
    exact ⟨d', m, f, e1, e2, e3, e4, e5, rst_x R (by omega) e7⟩
theorem rst_6 (R : RsR c1 c2) (hp : pc < 4294967296) (h : Ok6 c1 pc 41 d r rk op num) : Ok6 c2 pc 41 d r rk op num := by
  obtain ⟨h1, h2, h3, h4, h5⟩ := h
  have eN := R.2.1
  have k1 := rst_c (pc := pc) R 1
  have eF := R.2.2.2.1 41
  rw [eF] at h4
  rw [k1] at h5
  refine ⟨fun e => ?_, fun e => ?_, fun e => ?_, fun e => ?_, fun e => ?_⟩
  · obtain ⟨d', e1, e2⟩ := h1 e
    exact ⟨d', e1, rst_xS R (by omega) e2⟩
  · obtain ⟨d', e1, e2⟩ := h2 e
    exact ⟨d', e1, rst_xS R (by omega) e2⟩
  · obtain ⟨v, s, e1, e2, e3, e4⟩ := h3 e
    exact ⟨v, s, e1, e2, e3, rst_x R (by omega) e4⟩
  · obtain ⟨d0, w, ms, e1, e2, e3, e4, e5⟩ := h4 e
    exact ⟨d0, w, ms, e1, e2, e3, e4, rst_x R (by omega) e5⟩
  · obtain ⟨e1, e2, e3, e4⟩ := h5 e
    exact ⟨e1, by omega, rst_y R hp e3, rst_xS R (by omega) e4⟩
theorem rst_8 (R : RsR c1 c2) (h : Ok8 c1 pc 41 d r rk op num) : Ok8 c2 pc 41 d r rk op num := by
  obtain ⟨P, D, ⟨a1, a2, a3⟩, a4, a5, a6, a7, a8⟩ := h
  have eN := R.2.1
  rw [rst_c (pc := pc) R 2] at a1
  rw [rst_c (pc := pc) R 1] at a2
  rw [rst_W R] at a4
  rw [R.2.2.2.1] at a7
  exact ⟨P, D, ⟨a1, a2, by omega⟩, a4, a5, a6, a7, rst_x R (by omega) a8⟩
theorem rst_9 (R : RsR c1 c2) (h : Ok9 c1 pc 41 d r rk op num) : Ok9 c2 pc 41 d r rk op num := by
  obtain ⟨P, D, ⟨a1, a2, a3⟩, a4, a5, ⟨a6, a6'⟩, a7, a8, a9⟩ := h
  have eN := R.2.1
  rw [rst_c (pc := pc) R 2] at a1
  rw [rst_c (pc := pc) R 1] at a2
  rw [rst_W R] at a4
  rw [R.2.2.2.1] at a8
  exact ⟨P, D, ⟨a1, a2, by omega⟩, a4, a5, ⟨a6, rst_S R a6'⟩, a7, a8, rst_x R (by omega) a9⟩
theorem rst_7 (R : RsR c1 c2) (h : Ok7 c1 pc 41 d r rk op num) : Ok7 c2 pc 41 d r rk op num := by
  obtain ⟨h16, h17, h18, h19, h20, h21, h22, h23, h24⟩ := h
  have k1 := rst_c (pc := pc) R 1
  have eF := R.2.2.2.1
  refine ⟨fun e => ?_, fun e => ?_, fun e => ⟨(h18 e).1, (R.2.2.1 41 (h18 e).2).2.1⟩, fun e => ?_, fun e => ?_, fun e => ?_, fun e => ⟨rst_S R (h22 e).1, (h22 e).2⟩, fun e => ⟨rst_S R (h23 e).1, rst_x R (by omega) (h23 e).2⟩, fun e => ?_⟩
  · obtain ⟨a, s, e1, e2, e3⟩ := h16 e
    exact ⟨a, s, e1, e2, rst_x R (by omega) e3⟩
  · obtain ⟨v, d0, r1, ⟨a1, a2, a3⟩, ⟨b1, b2, b3⟩, b4, ⟨b5, b6⟩, b7, b8, b9, b10⟩ := h17 e
    obtain ⟨⟨x1, x2⟩, x3, x4⟩ := R.2.2.1 v a3
    rw [k1] at b7 b8
    rw [eF] at b4
    rw [x2, eF] at b5
    rw [x2] at b1
    rw [eF] at b6
    obtain ⟨rk', y1, y2, y3⟩ := b10
    rw [eF] at y1 y3
    exact ⟨v, d0, r1, ⟨a1, a2, x3⟩, ⟨b1, b2, b3⟩, b4, ⟨b5, b6⟩, b7, b8, rst_xR R (by omega) b9, rk', x4 _ y1, y2, y3⟩
  · obtain ⟨v, ws, ms, _, _, _, b3, _⟩ := h19 e
    exact absurd rfl b3.2
  · obtain ⟨a1, a2, a3⟩ := h20 e
    exact absurd rfl a2.2
  · obtain ⟨ws, ms, a1, a2, a3, a4, a5⟩ := h21 e
    exact absurd rfl a4.2
  · obtain ⟨d', e1, e2⟩ := h24 e
    exact ⟨d', e1, rst_x R (by omega) e2⟩
theorem rst_I (R : RsR c1 c2) (hp : pc < 4294967296) (h : OKI c1 pc 41 d r rk op num) : OKI c2 pc 41 d r rk op num := by
  obtain ⟨h0, h1, h2, h3, h4, h5, h6, h7, h8, h9, h10, h11, h12, h13, h14⟩ := h
  have eN := R.2.1
  refine ⟨fun e => rst_0 R (h0 e), fun e f => rst_1 R hp (h1 e f), h2, fun e f => ⟨fun z => by have := (h3 e f).1 z; omega, rst_7 R (h3 e f).2⟩, fun e f => rst_2 R (h4 e f), fun e f => rst_3 R (h5 e f), fun e f => ⟨(h6 e f).1, (h6 e f).2.1, rst_4 R hp (h6 e f).2.2⟩, fun e f => rst_5 R (h7 e f), fun e f => rst_6 R hp (h8 e f), fun e f => ?_, fun e f => ?_, fun e => ?_, fun e f => ⟨(h12 e f).1, rst_xS R (by omega) (h12 e f).2⟩, fun e f => rst_8 R (h13 e f), fun e f => rst_9 R (h14 e f)⟩
  · obtain ⟨a1, a2, e0, r1, rk', a3, a4, a5, a6, a7⟩ := h9 e f
    exact ⟨a1, a2, e0, r1, rk', a3, a4, rst_D1 R (by omega) a5, a6, rst_xS R (by omega) a7⟩
  · obtain ⟨d', a1, a2⟩ := h10 e f
    exact ⟨d', a1, rst_xS R (by omega) a2⟩
  · obtain ⟨d', a1, a2, a3⟩ := h11 e
    exact ⟨d', a1, rst_S R a2, rst_x R (by omega) a3⟩
/-- a place of unit 41 that is good -/
theorem rst_P (R : RsR c1 c2) (hb : ∀ x, tcD c2 pc = some x → tcD c1 pc = some x ∧ (x.1 = 41 ∨ x.1 = 141)) (hp : pc < 4294967296) (h : CkP c1 pc) : CkP c2 pc := by
  intro u d r rk e
  obtain ⟨e1, e2⟩ := hb _ e
  obtain ⟨a1, a2, op, a3, a4, a5, a6⟩ := h u d r rk e1
  have eN := R.2.1
  rw [show tcC c1 pc = tcC c2 pc from R.2.2.2.2.2 pc] at a4 a5
  have e2' : u = 41 ∨ u = 141 := e2
  rcases e2' with rfl | rfl
  · exact ⟨by omega, a2, op, a3, a4, fun hu => rst_I R hp (a5 hu), fun hu => absurd hu (by decide)⟩
  · refine ⟨by omega, a2, op, a3, a4, fun hu => absurd hu (by decide), fun hu => ⟨(a6 hu).1, (a6 hu).2.1, fun d' r0 er => ?_⟩⟩
    exact rst_xS R rfl ((a6 hu).2.2 d' r0 er)
end DZH
end JnS559
section JnS560
/-! The class: the machine over less code: what is left out is of unit 41 alone (made by rs560.py). -/
section DZI
variable {σ σ' s : CS} {c c1 c2 : Ct} {g : Nat → Prop} {l : List Nat} {t B f0 u0 : Nat} {K K2 K3 K4 KB : Nat → Option Int32}
def CtL2 (c1 c2 : Ct) : Prop := tcP c2 = tcP c1 ∧ tcF c2 = tcF c1 ∧ tcK c2 = tcK c1 ∧ ¬ tcK c1 41 ∧ ∀ p x, tcD c1 p = some x → x.1 < 41 → tcD c2 p = some x
theorem CtL2_S (x : CtL2 c1 c2) {u : Nat} (h : tcS c1 u) : tcS c2 u := ⟨by rw [x.2.2.1]; exact h.1, h.2⟩
theorem FC_u (k : ¬ tcK c 41) : ∀ (fs : List FrT) (fp u pb nf nc sq : Nat), FC c K K4 f0 0 fs fp u pb nf nc sq → ¬ u = 41
  | [], fp, u, pb, nf, nc, sq, h => by have := h.2.1; omega
  | q :: fs, fp, u, pb, nf, nc, sq, h => by
    obtain ⟨⟨bk, rb, z2, z3, a, b, s, f1, f2, f3, kk⟩, w⟩ := h
    intro e
    rcases kk with ⟨k1, _⟩ | ⟨_, _, k3, _⟩
    · rw [e] at k1; exact k k1
    · omega
theorem FC_n (x : CtL2 c1 c2) : ∀ (fs : List FrT) (fp u pb nf nc sq : Nat), FC c1 K K4 f0 0 fs fp u pb nf nc sq → FC c2 K K4 f0 0 fs fp u pb nf nc sq
  | [], fp, u, pb, nf, nc, sq, h => h
  | q :: fs, fp, u, pb, nf, nc, sq, h => by
    have ih := FC_n x fs
    obtain ⟨⟨bk, rb, z2, z3, a, b, s, f1, f2, f3, kk⟩, w⟩ := h
    obtain ⟨hP, hF, hK, h41, hD⟩ := id x
    have nq := FC_u h41 _ _ _ _ _ _ _ w
    have q41 : q.2.1 < 41 := by have := f3.2; omega
    refine ⟨⟨bk, rb, z2, z3, a, b, s, by rw [hF]; exact f1, by rw [hP, hF]; exact f2, f3, ?_⟩, ih _ _ _ _ _ _ w⟩
    rcases kk with ⟨k1, k2, k3⟩ | ⟨k1, k2, k3, k4, k5⟩
    · exact Or.inl ⟨by rw [hK]; exact k1, hD _ _ k2 q41, k3⟩
    · exact Or.inr ⟨CtL2_S x k1, CtL2_S x k2, k3, by rw [hP]; exact hD _ _ k4 q41, k5⟩
theorem RUN_n (x : CtL2 c1 c2) {pc fp sp nc m : Nat} (h : RUN c1 K pc fp sp nc m) : RUN c2 K pc fp sp nc m := by
  obtain ⟨u, d, rk, sq, fs, ms, ⟨h1, h1'⟩, h2, h3, h4, h5, h6, h7, h8, h9, h10, h11⟩ := h
  exact ⟨u, d, rk, sq, fs, ms, ⟨x.2.2.2.2 _ _ h1 h7, h1'⟩, h2, h3, h4, by rw [x.2.1]; exact h5, CtL2_S x h6, h7, FC_n x _ _ _ _ _ _ _ h8, h9, h10, by rw [x.2.1]; exact h11⟩
theorem POK_n (x : CtL2 c1 c2) {N : Nat} : ∀ (n top : Nat), POK c1 K N n top → POK c2 K N n top
  | 0, top, h => trivial
  | n + 1, top, h => by
    obtain ⟨off, pc, fp, sp, nc, z4, z5, h1, h2, h3, h4, h5⟩ := h
    exact ⟨off, pc, fp, sp, nc, z4, z5, h1, h2, h3, RUN_n x h4, POK_n x n off h5⟩
theorem SvR_nn (x : CtL2 c1 c2) (f : PFx σ σ') {p s : Nat} (hp : p < 9) (h : SvR c1 K σ p s) : SvR c2 K σ' p s := by
  obtain ⟨⟨f1, f1'⟩, f2, f3⟩ := f
  have e : ∀ i, i < 16 → σ'.1 (100 * (28 + p) + i) = σ.1 (100 * (28 + p) + i) := fun i hi => f1 _ (by omega) (by omega)
  have n20 := (f2 20 (by omega)).2
  have n21 := (f2 21 (by omega)).2
  unfold SvR at h ⊢
  rw [e 0 (by omega), e 1 (by omega), e 2 (by omega), e 8 (by omega), e 7 (by omega), e 5 (by omega), e 13 (by omega), e 12 (by omega), e 14 (by omega), e 15 (by omega), n20, n21]
  exact ⟨RUN_n x h.1, h.2.1, h.2.2.1, POK_n x _ _ h.2.2.2⟩
theorem SVK_nn (x : CtL2 c1 c2) (f : PFx σ σ') (h : SVK c1 K σ) : SVK c2 K σ' := by
  have pi := PFx_pi f
  have f0 := f
  obtain ⟨⟨f1, f1'⟩, f2, f3⟩ := f
  obtain ⟨⟨⟨h1, h2⟩, h3⟩, h4, h5, h6, h7⟩ := h
  have e : ∀ i k, i < 9 → k < 16 → σ'.1 (100 * (28 + sPi σ i) + k) = σ.1 (100 * (28 + sPi σ i) + k) := fun i k hi hk => f1 _ (by have := h4 i hi; omega) (by omega)
  have r27 := (f2 27 (by omega)).1
  have e4 := f1 2404 (by decide) (by decide)
  have e3 := f1 2403 (by decide) (by decide)
  have e5 := f1 2405 (by decide) (by decide)
  refine ⟨⟨⟨by rw [e4]; exact h1, by rw [e3]; exact h2⟩, SVB_xx f0 h4 h1 h3⟩, by rw [pi]; exact h4, by rw [pi]; exact h5, fun i hi => ?_, fun z => ?_⟩
  · rw [e4] at hi
    obtain ⟨k1, k2, k3⟩ := h6 i hi
    rw [pi, r27, e i 2 (by omega) (by omega), e i 13 (by omega) (by omega), e3, e4]
    exact ⟨SvR_nn x f0 (h4 i (by omega)) k1, k2, k3⟩
  · rw [e5] at z
    obtain ⟨k1, k2, k3⟩ := h7 z
    rw [pi, r27, e 8 2 (by omega) (by omega), e 8 13 (by omega) (by omega), e3]
    exact ⟨SvR_nn x f0 (h4 8 (by omega)) k1, k2, k3⟩
theorem MsG_nn (x : CtL2 c1 c2) (f : PFx σ σ') (ct : CtL c2 σ') (by0 : BY False σ') (h67 : ∀ i, i < 27 → Gv g (σ'.2.2.1 67 i)) (h : MsG c1 g l t σ) : MsG c2 g l t σ' := by
  obtain ⟨h1, h2, K, K2, K3, K4, mi, rn⟩ := h
  obtain ⟨m1, m2, m3, m4, m5, m6, m7, m8, m9, m10, m11⟩ := mi
  have f0 := f
  obtain ⟨⟨f1, f1'⟩, f2, f3⟩ := f
  refine ⟨by0, by rw [f1 1902 (by decide) (by decide)]; exact h2, K, K2, K3, K4, ⟨HQ_xx f0 m1, VI_xx f0 h67 m2, ct, ?_, SVK_nn x f0 m5, by rw [x.2.1]; exact m6, ?_, ?_, ?_, ?_, ?_⟩, fun z => ?_⟩
  · rw [(f2 20 (by omega)).2, f1 1912 (by decide) (by decide), f1 1913 (by decide) (by decide)]
    exact POK_n x _ _ m4
  · rw [x.2.1, f1 1902 (by decide) (by decide)]; exact m7
  · rw [f1 1903 (by decide) (by decide), f1 1814 (by decide) (by decide)]; exact m8
  · rw [f1 1912 (by decide) (by decide)]; exact m9
  · rw [f1 1914 (by decide) (by decide)]; exact m10
  · rw [f1 1915 (by decide) (by decide)]; exact m11
  · rw [f1 1907 (by decide) (by decide)] at z
    rw [f1 1905 (by decide) (by decide), f1 1900 (by decide) (by decide), f1 1901 (by decide) (by decide), f1 1902 (by decide) (by decide), f1 1908 (by decide) (by decide)]
    exact ⟨(rn z).1, RUN_n x (rn z).2⟩
end DZI
end JnS560
section JnS561
/-! The class: an exp that is asked for is read: what it leaves. -/
section DZJ
variable {σ σ1 σ2 σ3 s s' τ τ' : CS} {b : Bool} {N M n nc sz mk a1 a2 : Nat} {x1 : Int32}
/-- what the reading of an exp leaves: N code, M names stay -/
def RxF (b : Bool) (N M n : Nat) (σ s : CS) : Prop := ((∀ j, ¬ (j = 404 ∨ (3702 ≤ j ∧ j ≤ 3704) ∨ (4003 ≤ j ∧ j ≤ 4020) ∨ j = fP b 1 ∨ j = fP b 11 ∨ j = fP b 19) → s.1 j = σ.1 j) ∧ ∀ j, ¬ (j = 3705 ∨ j = 3706) → s.2.1 j = σ.2.1 j) ∧ ((∀ k, ¬ ((5 ≤ k ∧ k ≤ 11) ∨ k = 38 ∨ k = 41 ∨ k = 43 ∨ k = 51 ∨ k = pR7 b ∨ k = pR8 b ∨ k = pR9 b ∨ k = pR10 b ∨ k = pR13 b ∨ k = pR14 b ∨ k = pR15 b ∨ k = pR16 b ∨ k = pR17 b ∨ k = pR18 b) → s.2.2.1 k = σ.2.2.1 k) ∧ (∀ k, ¬ (k = 38 ∨ k = 41 ∨ k = 43 ∨ k = 51) → sN s k = sN σ k) ∧ (∀ k, ¬ (k = pR5 b ∨ k = pR6 b) → s.2.2.2.1 k = σ.2.2.2.1 k)) ∧ ((sCur s = sCur σ ∧ sOt s = sOt σ ∧ sPr s = sPr σ) ∧ (∀ d, ¬ d = b → sKd s d = sKd σ d) ∧ s.2.2.2.2.2.2 = σ.2.2.2.2.2.2) ∧ ((∀ i, ¬ i = 41 → s.2.2.1 (pR13 b) i = σ.2.2.1 (pR13 b) i ∧ s.2.2.1 (pR14 b) i = σ.2.2.1 (pR14 b) i ∧ s.2.2.1 (pR15 b) i = σ.2.2.1 (pR15 b) i ∧ s.2.2.1 (pR18 b) i = σ.2.2.1 (pR18 b) i) ∧ s.2.2.1 (pR14 b) 41 = 0 ∧ s.2.2.1 (pR18 b) 41 = 0) ∧ (∀ i, i < M → (s.2.2.2.1 (pR5 b) i = σ.2.2.2.1 (pR5 b) i ∧ s.2.2.2.1 (pR6 b) i = σ.2.2.2.1 (pR6 b) i) ∧ (s.2.2.1 (pR7 b) i = σ.2.2.1 (pR7 b) i ∧ s.2.2.1 (pR8 b) i = σ.2.2.1 (pR8 b) i) ∧ s.2.2.1 (pR9 b) i = σ.2.2.1 (pR9 b) i ∧ s.2.2.1 (pR10 b) i = σ.2.2.1 (pR10 b) i) ∧ (∀ i, i < N → cdr b s i = cdr b σ i ∧ cdr (!b) s i = cdr (!b) σ i) ∧ (N ≤ cdn b s ∧ (cdn b s = 36864 ∨ (sN s 43 = 1024 ∧ sN s 51 = 1024))) ∧ sN s 41 ≤ 21504 ∧ cN s n
/-- the numbers of the parser, of the code and of the names are free -/
theorem RxF_u (h : RxF b N M n σ s) (f1 : ∀ j, ¬ ((4003 ≤ j ∧ j ≤ 4020) ∨ j = fP b 1 ∨ j = fP b 11) → s'.1 j = s.1 j) (f2 : s'.2 = s.2) : RxF b N M n σ s' := by
  have fc1 := fP_c b 1
  have fc11 := fP_c b 11
  obtain ⟨a', r'⟩ := s'
  obtain ⟨a0, r0⟩ := s
  have e : r' = r0 := f2
  subst e
  obtain ⟨⟨h1, h2⟩, h3, h4, h5, h6, h7, h8, h9, h10⟩ := h
  exact ⟨⟨fun j hj => (f1 j (by omega)).trans (h1 j hj), h2⟩, h3, h4, h5, h6, h7, h8, h9, (f1 3701 (by omega)).trans h10.1, h10.2⟩
/-- more is read -/
theorem RxF_x (h : RxF b N M n σ s) (xk : XK b 41 nc sz mk s s') (hM : M ≤ nc) (hN : N ≤ sz) : RxF b N M n σ s' := by
  have p13 := pR_13 b
  have fc1 := fP_c b 1
  have fc11 := fP_c b 11
  have fc19 := fP_c b 19
  obtain ⟨⟨h1, h2⟩, ⟨h3, h3', h3''⟩, ⟨⟨h4, h4', h4''⟩, h5, h5'⟩, ⟨h6, h6', h6''⟩, h7, h8, h9, h10, h11⟩ := h
  obtain ⟨⟨x1, x2⟩, ⟨x3, x3', x3''⟩, ⟨⟨x4, x4', x4'', x4'''⟩, x5, x5'⟩, x6, x7, x8, x9, x10, x11⟩ := xk
  have r13 := x3 (pR13 b) (by cases b <;> decide)
  have r14 := x3 (pR14 b) (by cases b <;> decide)
  have r15 := x3 (pR15 b) (by cases b <;> decide)
  have r18 := x3 (pR18 b) (by cases b <;> decide)
  refine ⟨⟨fun j hj => (x1 j (by omega)).trans (h1 j hj), fun j hj => (x2 j hj).trans (h2 j hj)⟩, ⟨fun k hk => (x3 k (by omega)).trans (h3 k hk), fun k hk => (x3' k (by omega)).trans (h3' k hk), fun k hk => (x3'' k hk).trans (h3'' k hk)⟩, ⟨⟨x4.trans h4, x4'.trans h4', x4''.trans h4''⟩, fun d hd => (x5 d hd).trans (h5 d hd), x5'.trans h5'⟩, ⟨fun i hi => ?_, by rw [r14]; exact h6', by rw [r18]; exact h6''⟩, fun i hi => ?_, fun i hi => ⟨(x8 i (by omega)).1.trans (h8 i hi).1, (x8 i (by omega)).2.trans (h8 i hi).2⟩, ⟨by omega, x10.2⟩, x11.2, ?_⟩
  · rw [r13, r14, r15, r18]; exact h6 i hi
  · obtain ⟨⟨y1, y2⟩, ⟨y3, y4⟩, y5, y6⟩ := x7 i (by omega)
    obtain ⟨⟨z1, z2⟩, ⟨z3, z4⟩, z5, z6⟩ := h7 i hi
    exact ⟨⟨y1.trans z1, y2.trans z2⟩, ⟨y3.trans z3, y4.trans z4⟩, y5.trans z5, y6.trans z6⟩
  · unfold cN at h11 ⊢
    rw [x1 3701 (by omega), x3' 38 (by omega), x3 38 (by omega)]
    exact h11
/-- the unit is opened, the text looked at -/
theorem RxF_0 {kd st en : Int32} {hi lo : Int64} (e1 : σ1 = opU b 41 x1 σ) (bg : BgF n σ1 σ2) (e3 : σ3 = sA σ2 kd st en hi lo) (cd : CdL b N σ) (h41 : sN σ 41 ≤ 21504) : RxF b N M n σ σ3 := by
  have p13 := pR_13 b
  have fc1 := fP_c b 1
  have fc11 := fP_c b 11
  have fc19 := fP_c b 19
  have b0 := bg
  obtain ⟨⟨g1, g2⟩, ⟨g3, g4⟩, ⟨⟨g5, g6, g7, g8⟩, g9⟩, g10⟩ := bg
  have k2 : σ1.2.1 = σ.2.1 := by rw [e1]; exact opU_2.1
  have k3 : σ1.2.2.2 = σ.2.2.2 := by rw [e1]; exact opU_2.2
  have s22 : σ3.2.2 = σ2.2.2 := by rw [e3]; rfl
  have sN3 : ∀ k, sN σ3 k = sN σ2 k := fun k => by show σ3.2.2.2.2.1 k = _; rw [s22]
  have n1 : ∀ k, sN σ1 k = sN σ k := fun k => by show σ1.2.2.2.2.1 k = _; rw [k3]
  have rr : ∀ k, ¬ k = 38 → σ3.2.2.1 k = σ1.2.2.1 k := fun k hk => by rw [s22]; exact (g3 k hk).1
  have rk : ∀ k, ¬ k = 38 → ¬ (k = pR13 b ∨ k = pR14 b ∨ k = pR15 b ∨ k = pR16 b ∨ k = pR17 b ∨ k = pR18 b) → σ3.2.2.1 k = σ.2.2.1 k := fun k hk h2 => by rw [rr k hk, e1]; exact opU_k h2
  have nn : ∀ k, ¬ k = 38 → sN σ3 k = sN σ k := fun k hk => by rw [sN3, (g3 k hk).2, n1]
  have kd' : sKd σ3 = sKd σ := by
    show σ3.2.2.2.2.2.1.2.2.2.2 = _
    rw [s22]
    exact g8.trans (by show σ1.2.2.2.2.2.1.2.2.2.2 = _; rw [k3])
  have cdf : ∀ d i, cdr d σ3 i = cdr d σ i := fun d i => by
    have p0 := pR0_c (sKd σ d)
    show σ3.2.2.1 (pR0 (sKd σ3 d)) i = σ.2.2.1 (pR0 (sKd σ d)) i
    rw [kd', rk _ (by omega) (by omega)]
  have cdf2 : cdn b σ3 = cdn b σ := by
    have p0 := pR0_c (sKd σ b)
    show sN σ3 (pR0 (sKd σ3 b)) = sN σ (pR0 (sKd σ b))
    rw [kd', nn _ (by omega)]
  refine ⟨⟨fun j hj => ?_, fun j hj => ?_⟩, ⟨fun k hk => rk k (by omega) (by omega), fun k hk => nn k (by omega), fun k hk => ?_⟩, ⟨⟨?_, ?_, ?_⟩, fun d _ => by rw [kd'], ?_⟩, ⟨fun i hi => ⟨?_, ?_, ?_, ?_⟩, ?_, ?_⟩, fun i hi => ⟨⟨?_, ?_⟩, ⟨?_, ?_⟩, ?_, ?_⟩, fun i hi => ⟨cdf b i, cdf (!b) i⟩, ⟨by rw [cdf2]; exact cd.2.1, by rw [cdf2, nn 43 (by decide), nn 51 (by decide)]; exact cd.2.2⟩, by rw [nn 41 (by decide)]; exact h41, by rw [e3]; exact cN_sA g10⟩
  · rw [e3]
    show upd (upd (upd σ2.1 3702 kd) 3703 st) 3704 en j = _
    rw [upd_other (by omega), upd_other (by omega), upd_other (by omega), g1 j (by omega), e1]
    exact opU_f (by omega)
  · rw [e3]
    show updW (updW σ2.2.1 3705 _) 3706 lo j = _
    rw [updW_other (by omega), updW_other (by omega), g2, k2]
  · rw [s22, g4, k3]
  · show σ3.2.2.2.2.2.1.1 = _
    rw [s22]; exact g5.trans (by show σ1.2.2.2.2.2.1.1 = _; rw [k3])
  · show σ3.2.2.2.2.2.1.2.1 = _
    rw [s22]; exact g6.trans (by show σ1.2.2.2.2.2.1.2.1 = _; rw [k3])
  · show σ3.2.2.2.2.2.1.2.2.1 = _
    rw [s22]; exact g7.trans (by show σ1.2.2.2.2.2.1.2.2.1 = _; rw [k3])
  · rw [s22, g9, k3]
  · rw [rr _ (by omega), e1, opU_13, upd_other hi]
  · rw [rr _ (by omega), e1, opU_14, upd_other hi]
  · rw [rr _ (by omega), e1, opU_15, upd_other hi]
  · rw [rr _ (by omega), e1, opU_18, upd_other hi]
  · rw [rr _ (by omega), e1, opU_14, upd_same]
  · rw [rr _ (by omega), e1, opU_18, upd_same]
  · rw [s22, g4, k3]
  · rw [s22, g4, k3]
  · rw [rk _ (by omega) (by omega)]
  · rw [rk _ (by omega) (by omega)]
  · rw [rk _ (by omega) (by omega)]
  · rw [rk _ (by omega) (by omega)]
end DZJ
end JnS561
