section JnS52
/-! Which nodes are targets: a variable, parts over it. -/
abbrev isPt (x : Int32) : Prop := x = 21 ∨ x = 22 ∨ x = 23
def ChB (m : Nat) (t4 t6 : Nat → Int32) : Nat → Nat → Int32 → Prop
  | 0, _, _ => False
  | k + 1, e, x => e < m ∧ 1 ≤ e ∧ ((isPt (t4 e) ∧ ∃ l : Nat, t6 e = nI l ∧ ChB m t4 t6 k l x) ∨ (¬ isPt (t4 e) ∧ t4 e = x))
def Ch (b : BT) (e : Nat) (x : Int32) : Prop := ∃ k, ChB b.1 (b.2.2.1 4) (b.2.2.1 6) k e x
theorem ChB_k {m m' : Nat} {t4 t6 s4 s6 : Nat → Int32} (hm : m ≤ m') (h4 : ∀ h, h < m → s4 h = t4 h) (h6 : ∀ h, h < m → s6 h = t6 h) : ∀ (k e : Nat) (x : Int32), ChB m t4 t6 k e x → ChB m' s4 s6 k e x
  | 0, _, _, h => h
  | k + 1, e, x, ⟨h1, h2, h3⟩ => by
    refine ⟨by omega, h2, ?_⟩
    rw [h4 e h1, h6 e h1]
    rcases h3 with ⟨a, l, b, c⟩ | h3
    · exact Or.inl ⟨a, l, b, ChB_k hm h4 h6 k l x c⟩
    · exact Or.inr h3
theorem Ch_k {b b' : BT} (hm : b.1 ≤ b'.1) (h4 : ∀ h, h < b.1 → b'.2.2.1 4 h = b.2.2.1 4 h) (h6 : ∀ h, h < b.1 → b'.2.2.1 6 h = b.2.2.1 6 h) {e : Nat} {x : Int32} (h : Ch b e x) : Ch b' e x := by
  obtain ⟨k, h⟩ := h
  exact ⟨k, ChB_k hm h4 h6 k e x h⟩
theorem Ch_new {b : BT} {e : Nat} {x : Int32} (h1 : e < b.1) (h2 : 1 ≤ e) (h4 : b.2.2.1 4 e = x) (hx : ¬ isPt x) : Ch b e x := ⟨1, h1, h2, Or.inr ⟨by rw [h4]; exact hx, h4⟩⟩
theorem Ch_over {b : BT} {e l : Nat} {x : Int32} (h1 : e < b.1) (h2 : 1 ≤ e) (h4 : isPt (b.2.2.1 4 e)) (h6 : b.2.2.1 6 e = nI l) (h : Ch b l x) : Ch b e x := by
  obtain ⟨k, h⟩ := h
  exact ⟨k + 1, h1, h2, Or.inl ⟨h4, l, h6, h⟩⟩
/-- what the info of an operand says of its node -/
def Inf (b : BT) (e i : Nat) : Prop := (i = 1 ↔ b.2.2.1 4 e = 7) ∧ (¬ i = 0 → Ch b e 7) ∧ (i = 0 → ∃ x, ¬ x = 7 ∧ Ch b e x)
theorem Inf_k {b b' : BT} (hm : b.1 ≤ b'.1) (h4 : ∀ h, h < b.1 → b'.2.2.1 4 h = b.2.2.1 4 h) (h6 : ∀ h, h < b.1 → b'.2.2.1 6 h = b.2.2.1 6 h) {e i : Nat} (he : e < b.1) (h : Inf b e i) : Inf b' e i := by
  obtain ⟨a, c, d⟩ := h
  refine ⟨by rw [h4 e he]; exact a, fun z => Ch_k hm h4 h6 (c z), fun z => ?_⟩
  obtain ⟨x, x1, x2⟩ := d z
  exact ⟨x, x1, Ch_k hm h4 h6 x2⟩
theorem Inf_0 {b : BT} {e : Nat} {x : Int32} (h1 : e < b.1) (h2 : 1 ≤ e) (h4 : b.2.2.1 4 e = x) (hx : ¬ (x = 7 ∨ x = 21 ∨ x = 22 ∨ x = 23)) : Inf b e 0 :=
  ⟨⟨fun z => absurd z (by decide), fun z => absurd (Or.inl (h4.symm.trans z)) hx⟩, fun z => absurd rfl z, fun _ => ⟨x, fun z => hx (Or.inl z), Ch_new h1 h2 h4 (fun z => hx (Or.inr z))⟩⟩
section INF
variable {b : BT} {k x y z u : Int32} {l e i : Nat}
theorem bNode_4 : (bNode b k x y z).2.2.1 4 b.1 = k := (upd_same : upd (b.2.2.1 4) b.1 k b.1 = k)
theorem bNode_6 : (bNode b k x y z).2.2.1 6 b.1 = y := (upd_same : upd (b.2.2.1 6) b.1 y b.1 = y)
theorem bOver_4 : (bOver b k x l z).2.2.1 4 b.1 = k := by unfold bOver; rw [bSet_k (by decide) (Or.inr rfl)]; exact bNode_4
theorem bOver_6 : (bOver b k x l z).2.2.1 6 b.1 = nI l := by unfold bOver; rw [bSet_k (by decide) (Or.inr rfl)]; exact bNode_6
theorem bWrap_4 : (bWrap b k x y z u).2.2.1 4 b.1 = k := by unfold bWrap; rw [bSet_k (by decide) (Or.inl rfl)]; exact bNode_4
theorem inf_node (h1 : 1 ≤ b.1) (hx : ¬ (k = 7 ∨ k = 21 ∨ k = 22 ∨ k = 23)) : Inf (bNode b k x y z) b.1 0 := Inf_0 (by rw [bNode_1]; omega) h1 bNode_4 hx
theorem inf_over (h1 : 1 ≤ b.1) (hx : ¬ (k = 7 ∨ k = 21 ∨ k = 22 ∨ k = 23)) : Inf (bOver b k x l z) b.1 0 := Inf_0 (by rw [bOver_1]; omega) h1 bOver_4 hx
theorem inf_wrap (h1 : 1 ≤ b.1) (hx : ¬ (k = 7 ∨ k = 21 ∨ k = 22 ∨ k = 23)) : Inf (bWrap b k x y z u) b.1 0 := Inf_0 (by rw [bWrap_1]; omega) h1 bWrap_4 hx
theorem inf_var (h1 : 1 ≤ b.1) : Inf (bNode b 7 x y z) b.1 1 := ⟨⟨fun _ => bNode_4, fun _ => rfl⟩, fun _ => Ch_new (by rw [bNode_1]; omega) h1 bNode_4 (by decide), fun z => absurd z (by decide)⟩
/-- a part over it -/
theorem inf_part {b0 : BT} (h1 : 1 ≤ b.1) (hk : isPt k) (hm : b0.1 ≤ b.1) (h4 : ∀ h, h < b0.1 → b.2.2.1 4 h = b0.2.2.1 4 h) (h6 : ∀ h, h < b0.1 → b.2.2.1 6 h = b0.2.2.1 6 h) (he : e < b0.1) (h : Inf b0 e i) : Inf (bOver b k x e z) b.1 (if i = 0 then 0 else 2) := by
  have h' : Inf (bOver b k x e z) e i := Inf_k (by rw [bOver_1]; omega) (fun j hj => by rw [bOver_k (by decide) (by omega)]; exact h4 j hj) (fun j hj => by rw [bOver_k (by decide) (by omega)]; exact h6 j hj) he h
  have hp : isPt ((bOver b k x e z).2.2.1 4 b.1) := by rw [bOver_4]; exact hk
  have n7 : ¬ (bOver b k x e z).2.2.1 4 b.1 = 7 := by
    rw [bOver_4]
    rcases hk with rfl | rfl | rfl <;> decide
  refine ⟨⟨fun y => ?_, fun y => absurd y n7⟩, fun y => ?_, fun y => ?_⟩
  · by_cases c : i = 0
    · rw [if_pos c] at y; exact absurd y (by decide)
    · rw [if_neg c] at y; exact absurd y (by decide)
  · have c : ¬ i = 0 := fun c => y (if_pos c)
    exact Ch_over (by rw [bOver_1]; omega) h1 hp bOver_6 (h'.2.1 c)
  · have c : i = 0 := by
      by_cases c : i = 0
      · exact c
      · rw [if_neg c] at y; exact absurd y (by decide)
    obtain ⟨w, w1, w2⟩ := h'.2.2 c
    exact ⟨w, w1, Ch_over (by rw [bOver_1]; omega) h1 hp bOver_6 w2⟩
theorem inf_set {j : Nat} {w : Int32} (hj : j = 8 ∨ j = 9) (he : e < b.1) (h : Inf b e i) : Inf (bSet b j l w) e i :=
  Inf_k (by rw [bSet_1]; exact Nat.le_refl _) (fun h hh => bSet_k (by decide) hj) (fun h hh => bSet_k (by decide) hj) he h
end INF
/-- nonterminals with an operand's node; of loops: the one they begin with -/
abbrev GI (T : Nat → Int32) (n f : Nat) : Prop := ∀ (nt : Nat) (E : En) (o q v i e c g : Nat) (b : BT) (r : RT), (nt ≤ 13 ∨ nt = 15) → q ≤ n → v ≤ 60 → 1 ≤ b.1 → G T n f nt E o q v i e c g b = some (Sum.inr r) → Nd0 nt 1 b i e c → (isLp nt → Inf b e i) → Inf r.2.2.2.2.1 r.2.2.2.1 r.2.2.1
section GINF
variable {T : Nat → Int32} {n f : Nat}
theorem gk4 {nt : Nat} {E : En} {o q v i e c g : Nat} {b : BT} {r : RT} (hq : q ≤ n) (hv : v ≤ 60) (hb : 1 ≤ b.1) (hG : G T n f nt E o q v i e c g b = some (Sum.inr r)) (hN : Nd0 nt 1 b i e c) : (∀ h, h < b.1 → r.2.2.2.2.1.2.2.1 4 h = b.2.2.1 4 h) ∧ (∀ h, h < b.1 → r.2.2.2.2.1.2.2.1 6 h = b.2.2.1 6 h) :=
  ⟨g_keep T n (by decide) f nt E o q v i e c g b r hq hv hb hG hN, g_keep T n (by decide) f nt E o q v i e c g b r hq hv hb hG hN⟩
theorem gi_head (ih : GI T n f) {nt lp : Nat} {E : En} {o q v : Nat} {b : BT} {r : RT} (hnt : nt ≤ 13) (hlp : lp ≤ 13) (hq : q ≤ n) (hv : v ≤ 60) (hb : 1 ≤ b.1) (h0 : Nd0 nt 1 b 0 0 0) (hn : ¬ isLp nt) (hnd : ∀ s : RT, Nd1 nt 1 s → 1 ≤ s.2.2.2.1 ∧ s.2.2.2.1 < s.2.2.2.2.1.1) (hmo : ∀ s : RT, MoN nt n b q v s → Mo n b q v s) (hlp2 : ∀ (b : BT) (i e : Nat), 1 ≤ e ∧ e < b.1 → Nd0 lp 1 b i e 0)
    (hG : gb (G T n f nt E o q v 0 0 0 0 b) (fun r => G T n f lp E o r.1 r.2.1 r.2.2.1 r.2.2.2.1 0 0 r.2.2.2.2.1) = some (Sum.inr r)) : Inf r.2.2.2.2.1 r.2.2.2.1 r.2.2.1 := by
  obtain ⟨s, h1, hG⟩ := gb_s hG
  obtain ⟨x1, x2⟩ := g_mono T n f nt E o q v 0 0 0 0 b s hq hv h1 1 hb (by decide) h0
  obtain ⟨a1, a2, a3, a4, a5, a6, a7, a8⟩ := hmo s x1
  have x2 := hnd s x2
  exact ih lp _ _ _ _ _ _ _ _ _ _ (Or.inl hlp) a2 (by omega) (by omega) hG (hlp2 _ _ _ x2) (fun _ => ih nt _ _ _ _ _ _ _ _ _ _ (Or.inl hnt) hq hv hb h1 h0 (fun z => absurd z hn))
theorem gi_loop (ih : GI T n f) {nt lp : Nat} {E : En} {o q v e : Nat} {b : BT} {r : RT} {kd op : Int32} (hlp : lp ≤ 13) (hq : q ≤ n) (hv : v ≤ 60) (hb : 1 ≤ b.1) (h0 : Nd0 nt 1 b 0 0 0) (hnd : ∀ s : RT, Nd1 nt 1 s → 1 ≤ s.2.2.2.1 ∧ s.2.2.2.1 < s.2.2.2.2.1.1) (hmo : ∀ (q : Nat) (s : RT), MoN nt n b q v s → Mo n b q v s) (hlp2 : ∀ (b : BT) (i e : Nat), 1 ≤ e ∧ e < b.1 → Nd0 lp 1 b i e 0) (hk : ¬ (kd = 7 ∨ kd = 21 ∨ kd = 22 ∨ kd = 23))
    (hG : gT T n q (fun q1 => gb (G T n f nt E o q1 v 0 0 0 0 b) (fun r => G T n f lp E o r.1 r.2.1 0 r.2.2.2.2.1.1 0 0 (bOver r.2.2.2.2.1 kd op e (nI r.2.2.2.1)))) = some (Sum.inr r)) : Inf r.2.2.2.2.1 r.2.2.2.1 r.2.2.1 := by
  obtain ⟨t, hG⟩ := gT_s hG
  have hu := tkN_b T n q hq
  obtain ⟨s, h1, hG⟩ := gb_s hG
  obtain ⟨x1, x2⟩ := g_mono T n f nt E o _ v 0 0 0 0 b s hu.2.1 hv h1 1 hb (by decide) h0
  obtain ⟨a1, a2, a3, a4, a5, a6, a7, a8⟩ := hmo _ s x1
  exact ih lp _ _ _ _ _ _ _ _ _ _ (Or.inl hlp) a2 (by omega) (by rw [bOver_1]; omega) hG (hlp2 _ _ _ ⟨by omega, by rw [bOver_1]; omega⟩) (fun _ => inf_over (by omega) hk)
theorem g15_i : ∀ {f : Nat} {E : En} {o q v i e c g : Nat} {b : BT} {r : RT}, G T n f 15 E o q v i e c g b = some (Sum.inr r) → r.2.2.1 = 0
  | 0, _, _, _, _, _, _, _, _, _, _, hG => by simp only [G] at hG; cases hG
  | f + 1, E, o, q, v, i, e, c, g, b, r, hG => by
    rw [G_15] at hG
    by_cases k : tkK T n q = 12
    · rw [if_pos k] at hG
      obtain ⟨_, hG⟩ := gT_s hG
      obtain ⟨s, h1, hG⟩ := gb_s hG
      try dsimp only at hG
      by_cases c1 : c = 1 ∧ tkK T n s.1 = 16
      · rw [if_pos c1] at hG
        obtain ⟨_, hG⟩ := gT_s hG
        obtain ⟨s2, h2, hG⟩ := gb_s hG
        cases hG
        rfl
      · rw [if_neg c1] at hG
        exact g15_i hG
    · rw [if_neg k] at hG
      cases hG
      rfl
theorem gi_13 (ih : GI T n f) {E : En} {o q v i e c g : Nat} {b : BT} {r : RT} (hq : q ≤ n) (hv : v ≤ 60) (hb : 1 ≤ b.1) (hG : G T n (f + 1) 13 E o q v i e c g b = some (Sum.inr r)) : Inf r.2.2.2.2.1 r.2.2.2.1 r.2.2.1 := by
  have hu := tkN_b T n q hq
  have B : ∀ {nt : Nat} {E : En} {o q v : Nat} {b : BT} {s : RT}, q ≤ n → v ≤ 60 → 1 ≤ b.1 → G T n f nt E o q v 0 0 0 0 b = some (Sum.inr s) → Nd0 nt 1 b 0 0 0 → (MoN nt n b q v s → Mo n b q v s) → s.1 ≤ n ∧ s.2.1 ≤ 60 ∧ 1 ≤ s.2.2.2.2.1.1 := fun hq hv hb h h0 hmo => by
    obtain ⟨x1, _⟩ := g_mono T n f _ _ _ _ _ _ _ _ _ _ _ hq hv h 1 hb (by decide) h0
    obtain ⟨a1, a2, a3, a4, a5, _⟩ := hmo x1
    exact ⟨a2, by omega, by omega⟩
  rw [G_13] at hG
  by_cases k1 : tkK T n q = 27
  · rw [if_pos k1] at hG
    obtain ⟨_, hG⟩ := gT_s hG
    cases hG
    exact inf_node (b := bKeep b T q (tkE T n q - q)) hb (by decide)
  rw [if_neg k1] at hG
  by_cases k2 : tkK T n q = 28
  · rw [if_pos k2] at hG
    obtain ⟨_, hG⟩ := gT_s hG
    cases hG
    exact inf_node (b := bKeep b T (q + 1) (tkE T n q - 2 - q)) hb (by decide)
  rw [if_neg k2] at hG
  by_cases k3 : tkK T n q = 26
  · rw [if_pos k3] at hG
    obtain ⟨_, hG⟩ := gT_s hG
    try dsimp only at hG
    by_cases c1 : (fd E (tkS T n q)).1 = 1
    · rw [if_pos c1] at hG
      cases hG
      exact inf_var hb
    rw [if_neg c1] at hG
    by_cases c2 : (fd E (tkS T n q)).1 = 2 ∧ tkK T n (tkN T n q) = 6
    · rw [if_pos c2] at hG
      obtain ⟨_, hG⟩ := gO_s hG
      obtain ⟨_, hG⟩ := gT_s hG
      obtain ⟨s, h1, hG⟩ := gb_s hG
      have hw := tkN_b T n (tkN T n q) hu.2.1
      have hs := B hw.2.1 hv hb h1 (Or.inl rfl) (fun h => h)
      try dsimp only at hG
      by_cases c3 : tkK T n s.1 = 7 ∧ s.2.2.1 = E.2.2.2.2.2.2 (fd E (tkS T n q)).2.1
      · rw [if_pos c3] at hG
        obtain ⟨_, hG⟩ := gT_s hG
        cases hG
        exact inf_wrap hs.2.2 (by decide)
      · rw [if_neg c3] at hG; cases hG
    · rw [if_neg c2] at hG; cases hG
  rw [if_neg k3] at hG
  by_cases k4 : tkK T n q = 6
  · rw [if_pos k4] at hG
    obtain ⟨_, hG⟩ := gO_s hG
    obtain ⟨_, hG⟩ := gT_s hG
    obtain ⟨s, h1, hG⟩ := gb_s hG
    have hs := B hu.2.1 hv hb h1 trivial (fun h => h)
    obtain ⟨_, _, hG⟩ := gW_s hG
    cases hG
    exact inf_over hs.2.2 (by decide)
  rw [if_neg k4] at hG
  by_cases k5 : tkK T n q = 8 ∨ tkK T n q = 10
  · rw [if_pos k5] at hG
    obtain ⟨_, hG⟩ := gO_s hG
    obtain ⟨_, hG⟩ := gT_s hG
    try dsimp only at hG
    have hw := tkN_b T n (tkN T n q) hu.2.1
    by_cases c1 : tkK T n (tkN T n q) = tkK T n q + 1
    · rw [if_pos c1] at hG
      obtain ⟨_, hG⟩ := gT_s hG
      cases hG
      exact inf_node hb (by split <;> decide)
    rw [if_neg c1] at hG
    by_cases c2 : tkK T n (tkN T n q) = 45
    · rw [if_pos c2] at hG
      obtain ⟨_, hG⟩ := gT_s hG
      obtain ⟨s, h1, hG⟩ := gb_s hG
      obtain ⟨x1, _⟩ := g_mono T n f _ _ _ _ _ _ _ _ _ _ s hw.2.1 hv h1 1 hb (by decide) (Or.inl rfl)
      obtain ⟨a1, a2, a3, a4, a5, _⟩ := (x1 : Mo n _ _ _ s)
      try dsimp only at hG
      by_cases c3 : tkK T n s.1 = 15
      · rw [if_pos c3] at hG
        obtain ⟨_, hG⟩ := gT_s hG
        obtain ⟨s2, h2, hG⟩ := gb_s hG
        have hs2 := B (tkN_b T n s.1 a2).2.1 (by omega) (by omega) h2 trivial (fun h => h)
        obtain ⟨_, _, hG⟩ := gW_s hG
        obtain ⟨s3, h3, hG⟩ := gb_s hG
        have hs3 := B (tkN_b T n s2.1 hs2.1).2.1 hs2.2.1 hs2.2.2 h3 trivial (fun h => h)
        obtain ⟨_, _, hG⟩ := gW_s hG
        cases hG
        exact inf_wrap hs3.2.2 (by decide)
      · rw [if_neg c3] at hG
        obtain ⟨_, _, hG⟩ := gW_s hG
        obtain ⟨s3, h3, hG⟩ := gb_s hG
        have hs3 := B (tkN_b T n s.1 a2).2.1 (by omega) (by omega) h3 trivial (fun h => h)
        obtain ⟨_, _, hG⟩ := gW_s hG
        cases hG
        exact inf_wrap hs3.2.2 (by decide)
    rw [if_neg c2] at hG
    obtain ⟨s, h1, hG⟩ := gb_s hG
    obtain ⟨⟨a1, a2, a3, a4, a5, a6, a7, a8⟩, a9⟩ := mo_of (M := 1) hu.2.1 hv h1 hb (by decide) trivial (fun h => h) (fun h => h)
    try dsimp only at hG
    by_cases c3 : tkK T n s.1 = 16
    · rw [if_pos c3] at hG
      obtain ⟨_, hG⟩ := gT_s hG
      obtain ⟨s2, h2, hG⟩ := gb_s hG
      have hs2 := B (tkN_b T n s.1 a2).2.1 (by omega) (by omega) h2 trivial (fun h => h)
      obtain ⟨_, _, hG⟩ := gW_s hG
      cases hG
      exact inf_wrap hs2.2.2 (by decide)
    · rw [if_neg c3] at hG
      obtain ⟨s2, h2, hG⟩ := gb_s hG
      obtain ⟨_, _, hG⟩ := gW_s hG
      have hi := ih 15 _ _ _ _ _ _ _ _ _ _ (Or.inr rfl) a2 (by omega) (by omega) h2 (⟨a9.1, a9.2, a9.1, a9.2⟩ : 1 ≤ _ ∧ _ < _ ∧ 1 ≤ _ ∧ _ < _) (fun z => absurd z (by decide))
      have hz : s2.2.2.1 = 0 := g15_i h2
      rw [hz] at hi
      cases hG
      exact hi
  rw [if_neg k5] at hG
  by_cases k6 : tkK T n q = 60 ∨ tkK T n q = 61 ∨ tkK T n q = 62
  · rw [if_pos k6] at hG
    obtain ⟨_, hG⟩ := gT_s hG
    cases hG
    refine inf_node hb ?_
    split
    · decide
    · split <;> decide
  rw [if_neg k6] at hG
  by_cases k7 : tkK T n q = 69 ∨ tkK T n q = 70
  · rw [if_pos k7] at hG
    obtain ⟨_, hG⟩ := gO_s hG
    obtain ⟨_, hG⟩ := gT_s hG
    obtain ⟨s, h1, hG⟩ := gb_s hG
    obtain ⟨x1, _⟩ := g_mono T n f _ _ _ _ _ _ _ _ _ _ s hu.2.1 hv h1 1 hb (by decide) (Or.inl rfl)
    obtain ⟨a1, a2, a3, a4, a5, _⟩ := (x1 : Mo n _ _ _ s)
    obtain ⟨_, _, hG⟩ := gW_s hG
    obtain ⟨s2, h2, hG⟩ := gb_s hG
    have hs2 := B (tkN_b T n s.1 a2).2.1 (by omega) (by omega) h2 trivial (fun h => h)
    cases hG
    exact inf_node hs2.2.2 (by decide)
  rw [if_neg k7] at hG
  by_cases k8 : tkK T n q = 39
  · rw [if_pos k8] at hG
    obtain ⟨_, hG⟩ := gO_s hG
    obtain ⟨_, hG⟩ := gT_s hG
    obtain ⟨s, h1, hG⟩ := gb_s hG
    have hs := B hu.2.1 hv hb h1 trivial (fun h => h)
    obtain ⟨_, _, hG⟩ := gW_s hG
    obtain ⟨s2, h2, hG⟩ := gb_s hG
    have hs2 := B (tkN_b T n s.1 hs.1).2.1 hs.2.1 hs.2.2 h2 trivial (fun h => h)
    obtain ⟨s3, h3, hG⟩ := gb_s hG
    obtain ⟨x1, _⟩ := g_mono T n f _ _ _ _ _ _ _ _ _ _ s3 hs2.1 hs2.2.1 h3 1 (by rw [bNode_1]; omega) (by decide) (⟨hs2.2.2, by rw [bNode_1]; omega⟩ : 1 ≤ _ ∧ _ < _)
    obtain ⟨a1, a2, a3, a4, a5, _⟩ := (x1 : Mo n _ _ _ s3)
    rw [bNode_1] at a5
    obtain ⟨_, _, hG⟩ := gW_s hG
    obtain ⟨s4, h4, hG⟩ := gb_s hG
    have hs4 := B (tkN_b T n s3.1 a2).2.1 (by omega) (by omega) h4 trivial (fun h => h)
    obtain ⟨_, _, hG⟩ := gW_s hG
    cases hG
    exact inf_node (b := bSet (bNode s4.2.2.2.2.1 33 (-1) (nI s4.2.2.2.1) 0) 9 s3.2.2.2.1 (nI s4.2.2.2.2.1.1)) (by rw [bSet_1, bNode_1]; omega) (by decide)
  rw [if_neg k8] at hG
  by_cases k9 : tkK T n q = 83 ∧ E.2.2.2.2.1 = true
  · rw [if_pos k9] at hG
    obtain ⟨_, hG⟩ := gT_s hG
    cases hG
    exact inf_node hb (by decide)
  rw [if_neg k9] at hG
  by_cases k10 : isFn (tkK T n q) E.2.2.2.2.2.1
  · rw [if_pos k10] at hG
    obtain ⟨_, hG⟩ := gT_s hG
    try dsimp only at hG
    by_cases c1 : tkK T n (tkN T n q) = 6
    · rw [if_pos c1] at hG
      obtain ⟨_, hG⟩ := gO_s hG
      obtain ⟨_, hG⟩ := gT_s hG
      obtain ⟨s, h1, hG⟩ := gb_s hG
      have hs := B (tkN_b T n (tkN T n q) hu.2.1).2.1 hv hb h1 trivial (fun h => h)
      obtain ⟨_, _, hG⟩ := gW_s hG
      cases hG
      exact inf_node hs.2.2 (by decide)
    · rw [if_neg c1] at hG; cases hG
  · rw [if_neg k10] at hG; cases hG
theorem g_info (T : Nat → Int32) (n : Nat) : ∀ f : Nat, GI T n f
  | 0 => fun nt E o q v i e c g b r _ _ _ _ hG => by simp only [G] at hG; cases hG
  | f + 1 => fun nt E o q v i e c g b r hnt hq hv hb hG hN hI => by
    have ih := g_info T n f
    have hu := tkN_b T n q hq
    match nt, hnt, hG, hN, hI with
    | 0, _, hG, _, _ => rw [G_0] at hG; exact gi_head (nt := 2) (lp := 1) ih (by decide) (by decide) hq hv hb trivial (by decide) (fun _ h => h) (fun _ h => h) (fun _ _ _ h => h) hG
    | 1, _, hG, hN, hI =>
      rw [G_1] at hG
      by_cases c1 : tkK T n q = 65
      · rw [if_pos c1] at hG; exact gi_loop (nt := 2) (lp := 1) ih (by decide) hq hv hb trivial (fun _ h => h) (fun _ _ h => h) (fun _ _ _ h => h) (by decide) hG
      · rw [if_neg c1] at hG; cases hG; exact hI (by decide)
    | 2, _, hG, _, _ => rw [G_2] at hG; exact gi_head (nt := 4) (lp := 3) ih (by decide) (by decide) hq hv hb trivial (by decide) (fun _ h => h) (fun _ h => h) (fun _ _ _ h => h) hG
    | 3, _, hG, hN, hI =>
      rw [G_3] at hG
      by_cases c1 : tkK T n q = 64
      · rw [if_pos c1] at hG; exact gi_loop (nt := 4) (lp := 3) ih (by decide) hq hv hb trivial (fun _ h => h) (fun _ _ h => h) (fun _ _ _ h => h) (by decide) hG
      · rw [if_neg c1] at hG; cases hG; exact hI (by decide)
    | 4, _, hG, _, _ =>
      rw [G_4] at hG
      by_cases c1 : tkK T n q = 66
      · rw [if_pos c1] at hG
        obtain ⟨_, hG⟩ := gO_s hG
        obtain ⟨_, hG⟩ := gT_s hG
        obtain ⟨s, h1, hG⟩ := gb_s hG
        obtain ⟨⟨a1, a2, a3, a4, a5, _⟩, _⟩ := mo_of (M := 1) hu.2.1 hv h1 hb (by decide) trivial (fun h => h) (fun h => h)
        cases hG
        exact inf_node (by omega) (by decide)
      · rw [if_neg c1] at hG
        exact ih 5 _ _ _ _ _ _ _ _ _ _ (by decide) hq hv hb hG trivial (fun z => absurd z (by decide))
    | 5, _, hG, _, _ =>
      rw [G_5] at hG
      obtain ⟨s, h1, hG⟩ := gb_s hG
      obtain ⟨⟨a1, a2, a3, a4, a5, _⟩, _⟩ := mo_of (M := 1) hq hv h1 hb (by decide) trivial (fun h => h) (fun h => h)
      try dsimp only at hG
      by_cases c1 : isRl (tkK T n s.1)
      · rw [if_pos c1] at hG
        obtain ⟨_, hG⟩ := gT_s hG
        obtain ⟨s2, h2, hG⟩ := gb_s hG
        obtain ⟨⟨f1, f2, f3, f4, f5, _⟩, _⟩ := mo_of (M := 1) (tkN_b T n s.1 a2).2.1 (by omega) h2 (by omega) (by decide) trivial (fun h => h) (fun h => h)
        cases hG
        exact inf_over (by omega) (by decide)
      · rw [if_neg c1] at hG
        cases hG
        exact ih 6 _ _ _ _ _ _ _ _ _ s (by decide) hq hv hb h1 trivial (fun z => absurd z (by decide))
    | 6, _, hG, _, _ => rw [G_6] at hG; exact gi_head (nt := 8) (lp := 7) ih (by decide) (by decide) hq hv hb trivial (by decide) (fun _ h => h) (fun _ h => h) (fun _ _ _ h => h) hG
    | 7, _, hG, hN, hI =>
      rw [G_7] at hG
      by_cases c1 : tkK T n q = 2 ∨ tkK T n q = 3
      · rw [if_pos c1] at hG; exact gi_loop (nt := 8) (lp := 7) ih (by decide) hq hv hb trivial (fun _ h => h) (fun _ _ h => h) (fun _ _ _ h => h) (by decide) hG
      · rw [if_neg c1] at hG; cases hG; exact hI (by decide)
    | 8, _, hG, _, _ => rw [G_8] at hG; exact gi_head (nt := 10) (lp := 9) ih (by decide) (by decide) hq hv hb trivial (by decide) (fun _ h => h) (fun _ h => h) (fun _ _ _ h => h) hG
    | 9, _, hG, hN, hI =>
      rw [G_9] at hG
      by_cases c1 : tkK T n q = 4 ∨ tkK T n q = 67 ∨ tkK T n q = 68
      · rw [if_pos c1] at hG; exact gi_loop (nt := 10) (lp := 9) ih (by decide) hq hv hb trivial (fun _ h => h) (fun _ _ h => h) (fun _ _ _ h => h) (by decide) hG
      · rw [if_neg c1] at hG; cases hG; exact hI (by decide)
    | 10, _, hG, _, _ =>
      rw [G_10] at hG
      obtain ⟨s, h1, hG⟩ := gb_s hG
      obtain ⟨⟨a1, a2, a3, a4, a5, _⟩, _⟩ := mo_of (M := 1) hq hv h1 hb (by decide) trivial (fun h => h) (fun h => h)
      try dsimp only at hG
      by_cases c1 : tkK T n s.1 = 5
      · rw [if_pos c1] at hG
        obtain ⟨_, hG⟩ := gO_s hG
        obtain ⟨_, hG⟩ := gT_s hG
        obtain ⟨s2, h2, hG⟩ := gb_s hG
        obtain ⟨⟨f1, f2, f3, f4, f5, _⟩, _⟩ := mo_of (M := 1) (tkN_b T n s.1 a2).2.1 (by omega) h2 (by omega) (by decide) trivial (fun h => h) (fun h => h)
        cases hG
        exact inf_over (by omega) (by decide)
      · rw [if_neg c1] at hG
        cases hG
        exact ih 11 _ _ _ _ _ _ _ _ _ s (by decide) hq hv hb h1 trivial (fun z => absurd z (by decide))
    | 11, _, hG, _, _ =>
      rw [G_11] at hG
      by_cases c1 : tkK T n q = 3 ∨ tkK T n q = 23
      · rw [if_pos c1] at hG
        obtain ⟨_, hG⟩ := gO_s hG
        obtain ⟨_, hG⟩ := gT_s hG
        obtain ⟨s, h1, hG⟩ := gb_s hG
        obtain ⟨⟨a1, a2, a3, a4, a5, _⟩, _⟩ := mo_of (M := 1) hu.2.1 hv h1 hb (by decide) trivial (fun h => h) (fun h => h)
        cases hG
        exact inf_node (by omega) (by split <;> decide)
      rw [if_neg c1] at hG
      by_cases c2 : tkK T n q = 2 ∨ tkK T n q = 4 ∨ tkK T n q = 81 ∨ tkK T n q = 80
      · rw [if_pos c2] at hG
        obtain ⟨_, hG⟩ := gO_s hG
        obtain ⟨_, hG⟩ := gT_s hG
        obtain ⟨_, _, hG⟩ := gW_s hG
        obtain ⟨s, h1, hG⟩ := gb_s hG
        obtain ⟨⟨a1, a2, a3, a4, a5, _⟩, _⟩ := mo_of (M := 1) (tkN_b T n _ hu.2.1).2.1 hv h1 hb (by decide) trivial (fun h => h) (fun h => h)
        cases hG
        exact inf_node (by omega) (by decide)
      rw [if_neg c2] at hG
      exact gi_head (nt := 13) (lp := 12) ih (by decide) (by decide) hq hv hb trivial (by decide) (fun _ h => h) (fun _ h => h) (fun _ _ _ h => h) hG
    | 12, _, hG, hN, hI =>
      have hN : 1 ≤ e ∧ e < b.1 := hN
      rw [G_12] at hG
      by_cases c1 : tkK T n q = 6 ∨ tkK T n q = 8
      · rw [if_pos c1] at hG
        obtain ⟨_, hG⟩ := gO_s hG
        obtain ⟨_, hG⟩ := gT_s hG
        obtain ⟨s, h1, hG⟩ := gb_s hG
        obtain ⟨⟨a1, a2, a3, a4, a5, _⟩, _⟩ := mo_of (M := 1) hu.2.1 hv h1 hb (by decide) trivial (fun h => h) (fun h => h)
        have hk1 := gk4 hu.2.1 hv hb h1 trivial
        try dsimp only at hG
        by_cases c2 : tkK T n q = 6 ∧ tkK T n s.1 = 16
        · rw [if_pos c2] at hG
          obtain ⟨_, hG⟩ := gT_s hG
          obtain ⟨s2, h2, hG⟩ := gb_s hG
          have hws := (tkN_b T n s.1 a2).2.1
          obtain ⟨⟨f1, f2, f3, f4, f5, _⟩, _⟩ := mo_of (M := 1) hws (by omega) h2 (by omega) (by decide) trivial (fun h => h) (fun h => h)
          have hk2 := gk4 hws (by omega) (by omega) h2 trivial
          obtain ⟨_, _, hG⟩ := gW_s hG
          refine ih 12 _ _ _ _ _ _ _ _ _ _ (by decide) (tkN_b T n s2.1 f2).2.1 (by omega) (by rw [bSet_1, bOver_1]; omega) hG (⟨by omega, by rw [bSet_1, bOver_1]; omega⟩ : 1 ≤ _ ∧ _ < _) (fun _ => ?_)
          exact inf_set (Or.inl rfl) (by rw [bOver_1]; omega) (inf_part (b0 := b) (by omega) (by decide) (by omega) (fun h hh => (hk2.1 h (by omega)).trans (hk1.1 h hh)) (fun h hh => (hk2.2 h (by omega)).trans (hk1.2 h hh)) hN.2 (hI (by decide)))
        · rw [if_neg c2] at hG
          obtain ⟨_, _, hG⟩ := gW_s hG
          refine ih 12 _ _ _ _ _ _ _ _ _ _ (by decide) (tkN_b T n s.1 a2).2.1 (by omega) (by rw [bOver_1]; omega) hG (⟨by omega, by rw [bOver_1]; omega⟩ : 1 ≤ _ ∧ _ < _) (fun _ => ?_)
          exact inf_part (b0 := b) (by omega) (by split <;> decide) (by omega) hk1.1 hk1.2 hN.2 (hI (by decide))
      · rw [if_neg c1] at hG; cases hG; exact hI (by decide)
    | 13, _, hG, _, _ => exact gi_13 ih hq hv hb hG
    | 15, _, hG, hN, _ =>
      have hN : 1 ≤ i ∧ i < b.1 ∧ 1 ≤ e ∧ e < b.1 := hN
      rw [G_15] at hG
      by_cases k : tkK T n q = 12
      · rw [if_pos k] at hG
        obtain ⟨_, hG⟩ := gT_s hG
        obtain ⟨s, h1, hG⟩ := gb_s hG
        obtain ⟨⟨a1, a2, a3, a4, a5, a6, a7, a8⟩, a9⟩ := mo_of (M := 1) hu.2.1 hv h1 hb (by decide) trivial (fun h => h) (fun h => h)
        try dsimp only at hG
        by_cases c1 : c = 1 ∧ tkK T n s.1 = 16
        · rw [if_pos c1] at hG
          obtain ⟨_, hG⟩ := gT_s hG
          obtain ⟨s2, h2, hG⟩ := gb_s hG
          obtain ⟨⟨f1, f2, f3, f4, f5, _⟩, _⟩ := mo_of (M := 1) (tkN_b T n s.1 a2).2.1 (by omega) h2 (by omega) (by decide) trivial (fun h => h) (fun h => h)
          cases hG
          exact inf_wrap (by omega) (by decide)
        · rw [if_neg c1] at hG
          exact ih 15 _ _ _ _ _ _ _ _ _ _ (Or.inr rfl) a2 (by omega) (by rw [bSet_1]; omega) hG (⟨by omega, by rw [bSet_1]; omega, a9.1, by rw [bSet_1]; exact a9.2⟩ : 1 ≤ _ ∧ _ < _ ∧ 1 ≤ _ ∧ _ < _) (fun z => absurd z (by decide))
      · rw [if_neg k] at hG
        cases hG
        exact inf_node hb (by split <;> decide)
    | 14, hnt, _, _, _ => exact absurd hnt (by decide)
    | nt + 16, hnt, _, _, _ => exact absurd hnt (by omega)
end GINF
end JnS52
section JnS53
variable {yf : Nat × Nat}
/-! Targets and calls of procs. -/
section TGT
variable {T : Nat → Int32} {n : Nat}
theorem p_isTarget {E : En} {o q v : Nat} {b : BT} {σ : MS} (h : PS T n E o q v b σ) (hb : b.1 ≤ 70000) {e : Nat} {x : Int32} (hc : Ch b e x) {L : Nat → Int32} (hL : L 1 = nI e) : Tm (fun k => x_isTarget k 0 L σ) (fun r => r.2 = σ ∧ (¬ r.1 = 0 ↔ x = 7)) := by
  have e4 := h.2.2.1.2.2.2.1
  obtain ⟨k, hc⟩ := hc
  have loop : ∀ (k e : Nat) (N : Nat → Int32), ChB b.1 (b.2.2.1 4) (b.2.2.1 6) k e x → N 2 = nI e → Tm (fun k => x_isTarget k 1 N σ) (fun r => r.2 = σ ∧ (¬ r.1 = 0 ↔ x = 7)) := by
    intro k
    induction k with
    | zero => intro e N hc; exact absurd hc (fun z => z)
    | succ k ih =>
      intro e N hc hN
      obtain ⟨h1, h2, h3⟩ := hc
      have t4 := e4 4 (by decide) (by decide) e h2 h1
      have t6 := e4 6 (by decide) (by decide) e h2 h1
      have hi : ¬ (nI e < 0 ∨ 70000 ≤ (nI e).toNatClampNeg) := n_in (by omega) (by omega)
      have hcl : (nI e).toNatClampNeg = e := n_cl (by omega)
      have two : isPt (b.2.2.1 4 e) → Tm (fun k => x_isTarget k 2 N σ) (fun r => r.2 = σ ∧ (¬ r.1 = 0 ↔ x = 7)) := fun hp => by
        rcases h3 with ⟨_, l, l1, l2⟩ | h3
        · refine Tm_suc (fun k => by rw [x_isTarget]) ?_
          rw [hN]
          refine Tm_chk hi ?_
          rw [hcl, t6, l1]
          exact ih l _ l2 upd_same
        · exact absurd hp h3.1
      refine Tm_suc (fun k => by rw [x_isTarget]) ?_
      rw [hN]
      refine Tm_chk hi ?_
      rw [hcl, t4]
      refine Tm_ite (fun c => two (Or.inl c)) (fun c1 => ?_)
      refine Tm_chk (by rw [← hcl] at hi; rw [hcl] at hi; exact fun z => n_in (p := e) (n := 70000) (by omega) (by omega) (by rw [hcl]; exact z)) ?_
      refine Tm_ite (fun c => two (Or.inr (Or.inl c))) (fun c2 => ?_)
      refine Tm_chk (fun z => n_in (p := e) (n := 70000) (by omega) (by omega) (by rw [hcl]; exact z)) ?_
      refine Tm_ite (fun c => two (Or.inr (Or.inr c))) (fun c3 => ?_)
      have hx : b.2.2.1 4 e = x := by
        rcases h3 with ⟨hp, _⟩ | h3
        · rcases hp with z | z | z
          · exact absurd z c1
          · exact absurd z c2
          · exact absurd z c3
        · exact h3.2
      refine Tm_suc (fun k => by rw [x_isTarget]) ?_
      rw [hN]
      refine Tm_chk hi ?_
      rw [hcl, t4, hx]
      refine Tm_ite (fun c => ?_) (fun c => ?_)
      · refine Tm_suc (fun k => by rw [x_isTarget]) ?_
        refine Tm_chk (by rw [upd_same]; exact Or.inr rfl) ?_
        exact Tm_some ⟨rfl, ⟨fun _ => c, fun _ => by show ¬ upd N 100 1 100 = 0; rw [upd_same]; decide⟩⟩
      · refine Tm_suc (fun k => by rw [x_isTarget]) ?_
        refine Tm_suc (fun k => by rw [x_isTarget]) ?_
        refine Tm_chk (by rw [upd_same]; exact Or.inl rfl) ?_
        exact Tm_some ⟨rfl, ⟨fun z => absurd (show upd N 100 0 100 = 0 from upd_same) z, fun z => absurd z c⟩⟩
  refine Tm_suc (fun k => by rw [x_isTarget]) ?_
  exact loop k e _ hc (by rw [upd_same]; exact hL)
/-- NAME { part } -/
def gTg (T : Nat → Int32) (n f : Nat) (E : En) (o q v : Nat) (b : BT) : RG := if tkK T n q = 26 then gT T n q (fun q1 => if (fd E (tkS T n q)).1 = 1 then G T n f 12 E o q1 v 1 b.1 0 0 (bNode b 7 (fd E (tkS T n q)).2.2 (nI (fd E (tkS T n q)).2.1) 0) else some (Sum.inl (5, q))) else some (Sum.inl (2, q))
theorem gTg_tot (E : En) (o q v : Nat) (b : BT) (hq : q ≤ n) (hv : v ≤ 60) (hb : 1 ≤ b.1) {f : Nat} (hf : 30 * (n - q) ≤ f) : ∃ x, gTg T n f E o q v b = some x := by
  unfold gTg
  by_cases c : tkK T n q = 26
  · rw [if_pos c]
    have hu := tkN_b T n q hq
    have hu4 := hu.2.2.2 (by rw [c]; decide)
    refine gT_t ?_
    by_cases c2 : (fd E (tkS T n q)).1 = 1
    · rw [if_pos c2]
      exact g_tot T n f 12 E o _ v 1 b.1 0 0 _ (by decide) hu.2.1 hv (by rw [bNode_1]; omega) (⟨hb, by rw [bNode_1]; omega⟩ : 1 ≤ _ ∧ _ < _) (by simp only [lvG]; omega)
    · rw [if_neg c2]; exact ⟨_, rfl⟩
  · rw [if_neg c]; exact ⟨_, rfl⟩
theorem gTg_mo {f : Nat} {E : En} {o q v M : Nat} {b : BT} {s : RT} (hq : q ≤ n) (hv : v ≤ 60) (hM : M ≤ b.1) (h1 : 1 ≤ M) (hG : gTg T n f E o q v b = some (Sum.inr s)) : Mo n b q v s ∧ (M ≤ s.2.2.2.1 ∧ s.2.2.2.1 < s.2.2.2.2.1.1) ∧ q < s.1 ∧ Inf s.2.2.2.2.1 s.2.2.2.1 s.2.2.1 := by
  unfold gTg at hG
  by_cases c : tkK T n q = 26
  · rw [if_pos c] at hG
    obtain ⟨_, hG⟩ := gT_s hG
    have hu := tkN_b T n q hq
    have hu4 := hu.2.2.2 (by rw [c]; decide)
    try dsimp only at hG
    by_cases c2 : (fd E (tkS T n q)).1 = 1
    · rw [if_pos c2] at hG
      obtain ⟨x1, x2⟩ := g_mono T n f 12 _ _ _ _ _ _ _ _ _ s hu.2.1 hv hG M (by rw [bNode_1]; omega) h1 (⟨hM, by rw [bNode_1]; omega⟩ : M ≤ _ ∧ _ < _)
      obtain ⟨a1, a2, a3, a4, a5, a6, a7, a8⟩ := (x1 : Mo n _ _ _ s)
      rw [bNode_1] at a5 a6
      rw [bNode_p] at a7 a8
      have hi := g_info T n f 12 _ _ _ _ _ _ _ _ _ s (by decide) hu.2.1 hv (by rw [bNode_1]; omega) hG (⟨by omega, by rw [bNode_1]; omega⟩ : 1 ≤ _ ∧ _ < _) (fun _ => inf_var (by omega))
      exact ⟨by unfold Mo; omega, x2, by omega, hi⟩
    · rw [if_neg c2] at hG; cases hG
  · rw [if_neg c] at hG; cases hG
theorem p_target {f : Nat} {E : En} {o q v M P : Nat} {b : BT} {x : Fl RT} {σ : MS} {L : Nat → Int32} (hG : gTg T n f E o q v b = some x) (hS : PS T n E o q v b σ) (h1 : 1 ≤ M) (hM : M ≤ b.1) (hP : P ≤ b.2.1) (hn : b.1 + (n + 1 - q) + 966 ≤ 70000) (hp : b.2.1 + (n - q) ≤ 70000) : Tm (fun k => x_target k 0 L σ) (Po T n E o M P (b.1 + (n + 1 - q) + 963) σ x) := by
  have hq := PS_q hS
  have hv := PS_v hS
  have ho := PS_o hS
  have hu := tkN_b T n q hq.1
  unfold gTg at hG
  have b2 : ∀ {yf : Nat × Nat} (ρ : MS) (N : Nat → Int32), Bb yf b.1 ρ → FrM M P E.2.2.2.1 σ ρ → Tm (fun k => x_target k 2 N ρ) (Po T n E o M P (b.1 + (n + 1 - q) + 963) σ (Sum.inl yf)) := fun {yf} ρ N hB hF => by
    refine Tm_suc (fun k => by rw [x_target]) ?_
    refine Tm_ite (fun z => absurd z hB.1) (fun _ => ?_)
    refine Tm_suc (fun k => by rw [x_target]) ?_
    exact Tm_some ⟨⟨_, hB, by omega, hM⟩, ⟨0, (show upd N 100 0 100 = nI 0 from upd_same), by decide, Or.inl rfl⟩, hF⟩
  refine Tm_suc (fun k => by rw [x_target]) ?_
  refine Tm_ob (p_wantName (M := M) (P := P) (w := E.2.2.2.1) hS _) (fun r0 hr0 => ?_)
  by_cases hK : tkK T n q = 26
  · rw [if_pos hK] at hG
    have hu4 := hu.2.2.2 (by rw [hK]; decide)
    rcases hr0.2 with ⟨z, _⟩ | ⟨_, hr⟩
    · exact absurd hK z
    obtain ⟨u, τ⟩ := r0
    have hr : τ = σ := hr
    subst hr
    refine Tm_ite (fun _ => ?_) (fun z => absurd (PS_ok hS) z)
    refine Tm_suc (fun k => by rw [x_target]) ?_
    refine Tm_ob (p_find (M := M) (P := P) (w := E.2.2.2.1) hS (by omega) _) (fun r1 hr1 => ?_)
    obtain ⟨hS1, hF1, hsame, h46, hF3, h47, hcal⟩ := hr1
    have hloc := fd_loc E (tkS T n q)
    refine Tm_ob (p_take (M := M) (P := P) (w := E.2.2.2.1) hS1 _) (fun r2 hr2 => ?_)
    have hF2 := FrM_tr hF1 hr2.1
    have n1 : upd (upd (upd (upd L 1 (τ.1 8)) 2 (r1.2.1 46)) 3 (r1.2.1 47)) 4 (r1.2.1 48) 1 = nI q := by rw [upd_other (by decide), upd_other (by decide), upd_other (by decide), upd_same]; exact PS_8 hS
    have n3 : upd (upd (upd (upd L 1 (τ.1 8)) 2 (r1.2.1 46)) 3 (r1.2.1 47)) 4 (r1.2.1 48) 3 = r1.2.1 47 := by rw [upd_other (by decide), upd_same]
    have n4 : upd (upd (upd (upd L 1 (τ.1 8)) 2 (r1.2.1 46)) 3 (r1.2.1 47)) 4 (r1.2.1 48) 4 = r1.2.1 48 := upd_same
    generalize upd (upd (upd (upd L 1 (τ.1 8)) 2 (r1.2.1 46)) 3 (r1.2.1 47)) 4 (r1.2.1 48) = N at n1 n3 n4
    rcases gT_any hG with ⟨t0, rfl⟩ | ⟨t0, hG⟩
    · rcases hr2.2 with ⟨_, hB⟩ | ⟨z, _⟩
      · exact Tm_ite (fun z => absurd z hB.1) (fun _ => b2 r2.2 N hB hF2)
      · exact absurd t0 z
    rcases hr2.2 with ⟨z, _⟩ | ⟨_, hS2⟩
    · exact absurd z t0
    refine Tm_ite (fun _ => ?_) (fun z => absurd (PS_ok hS2) z)
    rw [h46]
    generalize hFd : fd E (tkS T n q) = F at hG h46 hF3 h47 hcal hloc
    refine Tm_ite (c := nI F.1 = 1) (fun z => ?_) (fun z => ?_)
    · have z : nI F.1 = nI 1 := z
      rw [n_eq (by omega) (by omega)] at z
      rw [if_pos z] at hG
      obtain ⟨h47, h48, hF60⟩ := h47 (by omega)
      refine Tm_suc (fun k => by rw [x_target]) ?_
      refine Tm_ite (fun _ => ?_) (fun z => absurd (PS_ok hS2) z)
      have five : ∀ N' : Nat → Int32, N' 101 = 7 → N' 100 = F.2.2 → N' 3 = nI F.2.1 → Tm (fun k => x_target k 5 N' r2.2) (Po T n E o M P (b.1 + (n + 1 - q) + 963) τ x) := fun N' j1 j2 j3 => by
        refine Tm_suc (fun k => by rw [x_target]) ?_
        refine Tm_ob (p_node (M := M) (P := P) (w := E.2.2.2.1) hS2 (by omega) hM _) (fun r8 hr8 => ?_)
        obtain ⟨hr81, hS8, hF8⟩ := hr8
        have w1 : (upd (upd (upd (upd (fun _ => (0 : Int32)) 1 (N' 101)) 2 (N' 100)) 3 (N' 3)) 4 0) 1 = 7 := by rw [upd_other (by decide), upd_other (by decide), upd_other (by decide), upd_same]; exact j1
        have w2 : (upd (upd (upd (upd (fun _ => (0 : Int32)) 1 (N' 101)) 2 (N' 100)) 3 (N' 3)) 4 0) 2 = F.2.2 := by rw [upd_other (by decide), upd_other (by decide), upd_same]; exact j2
        have w3 : (upd (upd (upd (upd (fun _ => (0 : Int32)) 1 (N' 101)) 2 (N' 100)) 3 (N' 3)) 4 0) 3 = nI F.2.1 := by rw [upd_other (by decide), upd_same]; exact j3
        rw [w1, w2, w3] at hS8
        have h12 := (all_S (T := T) (n := n) f f (Nat.le_refl _)).2.2.2.2.2.2.2.2.2.2.2.2.1
        refine Tm_ob (P := Po T n E o M P (b.1 + (n + 1 - q) + 963) τ x) (par0 (Tm_mono (h12 _ _ _ _ _ _ _ _ hG r8.2 _ 320 M P hS8 h1 (by rw [bNode_1]; omega) (by rw [bNode_p]; omega) (by rw [bNode_1]; omega) (by rw [bNode_p]; omega) (by omega) ⟨by rw [upd_same, upd_same]; exact hr81, hM, by rw [bNode_1]; omega⟩) (fun r hr => Po_tr (FrM_tr hF2 hF8) (by rw [bNode_1]; omega) hr))) (fun r9 hr9 => ?_)
        refine Tm_suc (fun k => by rw [x_target]) ?_
        refine Tm_some ?_
        rw [upd_same]
        exact hr9
      refine Tm_suc (fun k => by rw [x_target]) ?_
      refine Tm_ite (fun y => ?_) (fun y => ?_)
      · rw [n4, h48] at y
        refine Tm_suc (fun k => by rw [x_target]) ?_
        refine five _ (by rw [upd_same, upd_same]) (by rw [upd_other (by decide), upd_same, y]) ?_
        rw [upd_other (by decide), upd_other (by decide), upd_other (by decide), n3]; exact h47
      · rw [n4, h48] at y
        have y1 : F.2.2 = 1 := hloc.resolve_left y
        refine five _ upd_same (by rw [upd_other (by decide), upd_same, y1]) ?_
        rw [upd_other (by decide), upd_other (by decide), n3]; exact h47
    · have z : ¬ nI F.1 = nI 1 := z
      rw [n_eq (by omega) (by omega)] at z
      rw [if_neg z] at hG
      have hx := (Option.some.inj hG).symm
      subst hx
      refine Tm_ob (p_fault (M := M) (P := P) (w := E.2.2.2.1) (yf := (5, q)) hS2 _ (by rfl) (by rw [upd_same]; exact PS_8 hS)) (fun r5 hr5 => ?_)
      exact b2 r5.2 N hr5.1 (FrM_tr hF2 hr5.2)
  · rw [if_neg hK] at hG
    have hx := (Option.some.inj hG).symm
    subst hx
    rcases hr0.2 with ⟨_, hB⟩ | ⟨z, _⟩
    · refine Tm_ite (fun z => absurd z hB.1) (fun _ => ?_)
      exact Tm_some ⟨⟨_, hB, by omega, hM⟩, ⟨0, rfl, by decide, Or.inl rfl⟩, hr0.1⟩
    · exact absurd z hK
theorem b_target {σ : MS} (h : ¬ σ.1 10 = 0) (L : Nat → Int32) : Tm (fun k => x_target k 0 L σ) (fun r => r = (0, σ)) := by
  refine Tm_suc (fun k => by rw [x_target]) ?_
  refine Tm_ob (b_wantName h _) (fun r hr => ?_)
  obtain ⟨u, τ⟩ := r
  have hr : τ = σ := hr
  subst hr
  exact Tm_ite (fun c => absurd c h) (fun _ => Tm_some rfl)
theorem b_xexp {σ : MS} (h : ¬ σ.1 10 = 0) (L : Nat → Int32) : Tm (fun k => x_exp k 0 L σ) (fun r => r = (0, σ)) := b_exp (d := 313) h
end TGT
end JnS53
section JnS54
variable {yf : Nat × Nat}
/-! Calls of procs. -/
/-- the exps of a call: for wr and rw they must be targets -/
def GA (T : Nat → Int32) (n : Nat) (md : Nat → Nat) (np : Nat) (E : En) : Nat → Nat → Nat → Nat → Nat → Nat → Nat → BT → RG
  | 0, _, _, _, _, _, _, _ => none
  | f + 1, o, q, v, i, e, c, b => if c = 0 then (if tkK T n q = 7 then some (Sum.inr (q, v, 0, 0, b, [])) else gb (G T n f 0 E o q v 0 0 0 0 b) (fun r => if 0 < np ∧ 0 < md 0 ∧ r.2.2.1 = 0 then some (Sum.inl (6, q)) else GA T n md np E f o r.1 r.2.1 r.2.2.2.1 r.2.2.2.1 1 r.2.2.2.2.1))
    else if tkK T n q = 12 then gT T n q (fun q1 => gb (G T n f 0 E o q1 v 0 0 0 0 b) (fun r => if c < np ∧ 0 < md c ∧ r.2.2.1 = 0 then some (Sum.inl (6, q1)) else GA T n md np E f o r.1 r.2.1 i r.2.2.2.1 (c + 1) (bSet r.2.2.2.2.1 9 e (nI r.2.2.2.1))))
    else some (Sum.inr (q, v, c, i, b, []))
def gCl (T : Nat → Int32) (n f : Nat) (md : Nat → Nat) (np p : Nat) (tg : Int32) (E : En) (o q v : Nat) (b : BT) : RG := gT T n q (fun q1 => if tkK T n q1 = 6 then gO o q1 (gT T n q1 (fun q2 => gb (GA T n md np E f (o + 1) q2 v 0 0 0 b) (fun r => if tkK T n r.1 = 7 ∧ r.2.2.1 = np then gT T n r.1 (fun q3 => gW T n 13 q3 (fun q4 => some (Sum.inr (q4, r.2.1, 0, r.2.2.2.2.1.1, bNode r.2.2.2.2.1 45 tg (hd r.2.2.2.1) (nI p), [])))) else some (Sum.inl (if tkK T n r.1 = 7 then 6 else 2, r.1))))) else some (Sum.inl (5, q)))
section CALL
variable {T : Nat → Int32} {n : Nat} {md : Nat → Nat} {np : Nat} {E : En}
theorem ga_mo : ∀ (f : Nat) (o q v i e c : Nat) (b : BT) (r : RT) (M : Nat), q ≤ n → v ≤ 60 → GA T n md np E f o q v i e c b = some (Sum.inr r) → M ≤ b.1 → 1 ≤ M → c ≤ q → (c = 0 ∨ (M ≤ i ∧ i < b.1 ∧ M ≤ e ∧ e < b.1)) → Mo n b q v r ∧ ((r.2.2.1 = 0 ∧ r.2.2.2.1 = 0) ∨ (M ≤ r.2.2.2.1 ∧ r.2.2.2.1 < r.2.2.2.2.1.1)) ∧ r.2.2.1 ≤ r.1
  | 0, o, q, v, i, e, c, b, r, M, _, _, hG, _, _, _, _ => by simp only [GA] at hG; cases hG
  | f + 1, o, q, v, i, e, c, b, r, M, hq, hv, hG, hM, h1, hcq, hN => by
    simp only [GA] at hG
    by_cases c0 : c = 0
    · rw [if_pos c0] at hG
      by_cases k7 : tkK T n q = 7
      · rw [if_pos k7] at hG; cases hG
        exact ⟨by unfold Mo; dsimp only; omega, Or.inl ⟨rfl, rfl⟩, Nat.zero_le _⟩
      rw [if_neg k7] at hG
      obtain ⟨s, h7, hG⟩ := gb_s hG
      obtain ⟨⟨a1, a2, a3, a4, a5, a6, a7, a8⟩, a9⟩ := mo_of (M := M) hq hv h7 hM h1 trivial (fun h => h) (fun h => h)
      have a9' := (mo_of (M := b.1) hq hv h7 (Nat.le_refl _) (by omega) trivial (fun h => h) (fun h => h)).2
      try dsimp only at hG
      by_cases c1 : 0 < np ∧ 0 < md 0 ∧ s.2.2.1 = 0
      · rw [if_pos c1] at hG; cases hG
      rw [if_neg c1] at hG
      obtain ⟨⟨b1, b2, b3, b4, b5, b6, b7, b8⟩, b9, b10⟩ := ga_mo f _ _ _ _ _ _ _ r M a2 (by omega) hG (by omega) h1 (by omega) (Or.inr ⟨a9.1, a9.2, a9.1, a9.2⟩)
      exact ⟨by unfold Mo; omega, b9, b10⟩
    · rw [if_neg c0] at hG
      by_cases k12 : tkK T n q = 12
      · rw [if_pos k12] at hG
        obtain ⟨_, hG⟩ := gT_s hG
        have hu := tkN_b T n q hq
        obtain ⟨s, h7, hG⟩ := gb_s hG
        obtain ⟨⟨a1, a2, a3, a4, a5, a6, a7, a8⟩, a9⟩ := mo_of (M := M) hu.2.1 hv h7 hM h1 trivial (fun h => h) (fun h => h)
        have a9' := (mo_of (M := b.1) hu.2.1 hv h7 (Nat.le_refl _) (by omega) trivial (fun h => h) (fun h => h)).2
        try dsimp only at hG
        by_cases c1 : c < np ∧ 0 < md c ∧ s.2.2.1 = 0
        · rw [if_pos c1] at hG; cases hG
        rw [if_neg c1] at hG
        obtain ⟨⟨b1, b2, b3, b4, b5, b6, b7, b8⟩, b9, b10⟩ := ga_mo f _ _ _ _ _ _ _ r M a2 (by omega) hG (by rw [bSet_1]; omega) h1 (by omega) (Or.inr ⟨by omega, by rw [bSet_1]; omega, a9.1, by rw [bSet_1]; exact a9.2⟩)
        rw [bSet_1] at b5 b6
        rw [bSet_p] at b7 b8
        exact ⟨by unfold Mo; omega, b9, b10⟩
      · rw [if_neg k12] at hG; cases hG
        refine ⟨by unfold Mo; dsimp only; omega, Or.inr (by dsimp only; omega), hcq⟩
theorem ga_tot : ∀ (f o q v i e c : Nat) (b : BT), q ≤ n → v ≤ 60 → 1 ≤ b.1 → 30 * (n - q) + 23 ≤ f → ∃ y, GA T n md np E f o q v i e c b = some y
  | 0, o, q, v, i, e, c, b, _, _, _, hf => absurd hf (by omega)
  | f + 1, o, q, v, i, e, c, b, hq, hv, hb, hf => by
    simp only [GA]
    by_cases c0 : c = 0
    · rw [if_pos c0]
      by_cases k7 : tkK T n q = 7
      · rw [if_pos k7]; exact ⟨_, rfl⟩
      rw [if_neg k7]
      refine gb_t (g_tot T n f 0 E o q v 0 0 0 0 b (by decide) hq hv hb trivial (by simp only [lvG]; omega)) (fun s h7 => ?_)
      obtain ⟨⟨a1, a2, a3, a4, a5, a6, a7, a8⟩, a9⟩ := mo_of (M := b.1) hq hv h7 (Nat.le_refl _) hb trivial (fun h => h) (fun h => h)
      by_cases c1 : 0 < np ∧ 0 < md 0 ∧ s.2.2.1 = 0
      · rw [if_pos c1]; exact ⟨_, rfl⟩
      · rw [if_neg c1]; exact ga_tot f _ _ _ _ _ _ _ a2 (by omega) (by omega) (by omega)
    · rw [if_neg c0]
      by_cases k12 : tkK T n q = 12
      · rw [if_pos k12]
        have hu := tkN_b T n q hq
        have hu4 := hu.2.2.2 (by rw [k12]; decide)
        refine gT_t ?_
        refine gb_t (g_tot T n f 0 E o _ v 0 0 0 0 b (by decide) hu.2.1 hv hb trivial (by simp only [lvG]; omega)) (fun s h7 => ?_)
        obtain ⟨⟨a1, a2, a3, a4, a5, a6, a7, a8⟩, a9⟩ := mo_of (M := b.1) hu.2.1 hv h7 (Nat.le_refl _) hb trivial (fun h => h) (fun h => h)
        by_cases c1 : c < np ∧ 0 < md c ∧ s.2.2.1 = 0
        · rw [if_pos c1]; exact ⟨_, rfl⟩
        · rw [if_neg c1]; exact ga_tot f _ _ _ _ _ _ _ a2 (by omega) (by rw [bSet_1]; omega) (by omega)
      · rw [if_neg k12]; exact ⟨_, rfl⟩
/-- what a proc's rows say -/
def PM (σ : MS) (md : Nat → Nat) (np p : Nat) : Prop := p < 41 ∧ np ≤ 8 ∧ σ.2.2 18 p = nI np ∧ (∀ i, i < np → σ.2.2 19 (8 * p + i) = nI (md i) ∧ md i ≤ 2)
theorem PM_fr {σ τ : MS} {p M P w : Nat} (h : PM σ md np p) (hF : FrM M P w σ τ) : PM τ md np p := by
  unfold PM
  rw [hF.2.2.1 18 (by decide), hF.2.2.1 19 (by decide)]; exact h
theorem n_mul8 {p c : Nat} (h : p < 41) (hc : c < 2147483000) : (8 : Int32) * nI p + nI c = nI (8 * p + c) := by
  have h8 : (8 : Int32).toInt = 8 := rfl
  have e : (8 : Int32) * nI p = nI (8 * p) := by
    rw [i_eq, i_mul (by rw [h8, n_int (by omega)]; omega) (by rw [h8, n_int (by omega)]; omega), h8, n_int (by omega), n_int (by omega)]; omega
  rw [e, n_add (by omega)]
/-- one exp of a call has been read: is it a target where one is wanted -/
theorem call_chk {M P c p : Nat} {σ0 : MS} {s : RT} {o : Nat} {r1 : Int32 × MS} {L : Nat → Int32} {x8 : Int32} {q0 : Nat} (Q : Int32 × MS → Prop) (hS : PS T n E o s.1 s.2.1 s.2.2.2.2.1 r1.2) (hr1 : r1.1 = nI s.2.2.2.1) (hI : Inf s.2.2.2.2.1 s.2.2.2.1 s.2.2.1) (hb : s.2.2.2.2.1.1 ≤ 70000) (hm : PM r1.2 md np p) (hL2 : L 2 = nI p) (hL6 : L 6 = nI c) (hc : c < 2147483000) (hF : FrM M P E.2.2.2.1 σ0 r1.2)
    (good : ¬ (c < np ∧ 0 < md c ∧ s.2.2.1 = 0) → Tm (fun k => x_call k 8 (upd (upd L 7 x8) 8 r1.1) r1.2) Q)
    (bad : (c < np ∧ 0 < md c ∧ s.2.2.1 = 0) → ∀ ρ : MS, Bb (6, q0) s.2.2.2.2.1.1 ρ → FrM M P E.2.2.2.1 σ0 ρ → Tm (fun k => x_call k 8 (upd (upd L 7 x8) 8 r1.1) ρ) Q) (y1 y2 : Int32) (hy1 : y1 = nI 6) (hy2 : y2 = nI q0) :
    Tm (fun k => if r1.2.1 10 = 0 then (if ¬ (L 2 < 0 ∨ 41 ≤ (L 2).toNatClampNeg) then (if r1.2.2.2 18 (L 2).toNatClampNeg ≤ L 6 then x_call k 8 (upd (upd L 7 x8) 8 r1.1) r1.2 else (if ¬ (8 * L 2 + L 6 < 0 ∨ 328 ≤ (8 * L 2 + L 6).toNatClampNeg) then (if r1.2.2.2 19 (8 * L 2 + L 6).toNatClampNeg ≤ 0 then x_call k 8 (upd (upd L 7 x8) 8 r1.1) r1.2 else ob (x_isTarget k 0 (upd (fun _ => 0) 1 r1.1) r1.2) (fun r7 => if r7.1 = 0 then ob (x_fault k 0 (upd (upd (fun _ => 0) 1 y1) 2 y2) r7.2) (fun r9 => x_call k 8 (upd (upd L 7 x8) 8 r1.1) r9.2) else x_call k 8 (upd (upd L 7 x8) 8 r1.1) r7.2)) else none)) else none) else x_call k 8 (upd (upd L 7 x8) 8 r1.1) r1.2) Q := by
  obtain ⟨m1, m2, m3, m4⟩ := hm
  refine Tm_ite (fun _ => ?_) (fun z => absurd (PS_ok hS) z)
  rw [hL2, hL6]
  refine Tm_chk (n_in (by omega) (by omega)) ?_
  rw [n_cl (p := p) (by omega), m3]
  refine Tm_ite (fun z => ?_) (fun z => ?_)
  · rw [n_le (by omega) (by omega)] at z
    exact good (by omega)
  rw [n_le (by omega) (by omega)] at z
  rw [n_mul8 m1 hc]
  refine Tm_chk (n_in (by omega) (by omega)) ?_
  rw [n_cl (p := 8 * p + c) (by omega), (m4 c (by omega)).1]
  have m42 := (m4 c (by omega)).2
  refine Tm_ite (fun z2 => ?_) (fun z2 => ?_)
  · rw [n_le0 (by omega)] at z2
    exact good (by omega)
  rw [n_le0 (by omega)] at z2
  by_cases hi : s.2.2.1 = 0
  · obtain ⟨w, w1, w2⟩ := hI.2.2 hi
    refine Tm_ob (p_isTarget hS hb w2 (by rw [upd_same]; exact hr1)) (fun r7 hr7 => ?_)
    obtain ⟨u, τ⟩ := r7
    obtain ⟨h3, hr7⟩ := hr7
    have h3 : τ = r1.2 := h3
    subst h3
    refine Tm_ite (fun _ => ?_) (fun y => absurd (hr7.mp y) w1)
    refine Tm_ob (p_fault (M := M) (P := P) (w := E.2.2.2.1) (yf := (6, q0)) hS _ (by rw [upd_other (by decide), upd_same]; exact hy1) (by rw [upd_same]; exact hy2)) (fun r9 hr9 => ?_)
    exact bad ⟨by omega, by omega, hi⟩ r9.2 hr9.1 (FrM_tr hF hr9.2)
  · refine Tm_ob (p_isTarget hS hb (hI.2.1 hi) (by rw [upd_same]; exact hr1)) (fun r7 hr7 => ?_)
    obtain ⟨u, τ⟩ := r7
    obtain ⟨h3, hr7⟩ := hr7
    have h3 : τ = r1.2 := h3
    subst h3
    exact Tm_ite (fun y => absurd y (hr7.mpr rfl)) (fun _ => good (fun z => hi z.2.2))
end CALL
end JnS54
section JnS55
variable {yf : Nat × Nat}
/-! Calls of procs: the reference's. -/
section CALL
variable {T : Nat → Int32} {n : Nat} {md : Nat → Nat} {np p : Nat} {E : En} {o M P : Nat}
theorem call_loop : ∀ (f : Nat) (q v i e c : Nat) (b : BT) (y : Fl RT), GA T n md np E f o q v i e c b = some y → ∀ (σ : MS) (N : Nat → Int32) (Q : Int32 × MS → Prop), PS T n E o q v b σ → PM σ md np p → 1 ≤ M → M ≤ b.1 → P ≤ b.2.1 → b.1 + (n + 1 - q) + 967 ≤ 70000 → b.2.1 + (n - q) ≤ 70000 → c ≤ q → N 2 = nI p → N 4 = hd i → N 6 = nI c → (c = 0 → i = 0) → (¬ c = 0 → N 5 = nI e ∧ M ≤ e ∧ e < b.1 ∧ M ≤ i ∧ i < b.1) →
    (∀ (ρ : MS) (N' : Nat → Int32), N' 1 = N 1 → N' 2 = N 2 → FrM M P E.2.2.2.1 σ ρ → (match y with
      | Sum.inl yf => ∃ m, Bb yf m ρ ∧ M ≤ m ∧ m ≤ b.1 + (n + 1 - q) + 963
      | Sum.inr s => PS T n E o s.1 s.2.1 s.2.2.2.2.1 ρ ∧ N' 4 = hd s.2.2.2.1 ∧ N' 6 = nI s.2.2.1) → Tm (fun k => x_call k 12 N' ρ) Q) → Tm (fun k => x_call k 4 N σ) Q
  | 0 => fun q v i e c b y hG => by simp only [GA] at hG; cases hG
  | f + 1 => fun q v i e c b y hG σ N Q hS hPM h1 hM hP hn hp hcq hN2 hN4 hN6 hci hN5 hout => by
    simp only [GA] at hG
    have hq := PS_q hS
    have hv := PS_v hS
    have hu := tkN_b T n q hq.1
    have ih := call_loop f
    -- behind an exp that ended in a fault: from 8 on
    have bout : ∀ {yf : Nat × Nat} (ρ : MS) (m : Nat) (N' : Nat → Int32) (c' : Nat), y = Sum.inl yf → N' 1 = N 1 → N' 2 = N 2 → N' 6 = nI c' → c' < 2147483648 → (¬ c' = 0 → N' 5 = nI e ∧ M ≤ e ∧ e < b.1) → Bb yf m ρ → M ≤ m → m ≤ b.1 + (n + 1 - q) + 963 → FrM M P E.2.2.2.1 σ ρ → Tm (fun k => x_call k 8 N' ρ) Q := fun {yf} ρ m N' c' hy k1 k2 k6 hc' k5 hB hMm hm hF => by
      subst hy
      have last : ∀ (ρ' : MS) (N' : Nat → Int32), N' 1 = N 1 → N' 2 = N 2 → Bb yf m ρ' → FrM M P E.2.2.2.1 σ ρ' → Tm (fun k => x_call k 11 N' ρ') Q := fun ρ' N' k1 k2 hB hF => by
        refine Tm_suc (fun k => by rw [x_call]) ?_
        refine Tm_suc (fun k => by rw [x_call]) ?_
        refine Tm_ite (fun z => absurd z hB.1) (fun _ => ?_)
        exact hout ρ' _ (by rw [upd_other (by decide), upd_other (by decide)]; exact k1) (by rw [upd_other (by decide), upd_other (by decide)]; exact k2) hF ⟨m, hB, hMm, hm⟩
      have ten : ∀ N' : Nat → Int32, N' 1 = N 1 → N' 2 = N 2 → N' 6 = nI c' → (¬ c' = 0 → N' 5 = nI e ∧ M ≤ e ∧ e < b.1) → Tm (fun k => x_call k 10 N' ρ) Q := fun N' k1 k2 k6 k5 => by
        refine Tm_suc (fun k => by rw [x_call]) ?_
        refine Tm_ite (fun _ => last ρ _ (by rw [upd_other (by decide)]; exact k1) (by rw [upd_other (by decide)]; exact k2) hB hF) (fun z => ?_)
        rw [k6, n_le0 hc'] at z
        obtain ⟨k5, k51, k52⟩ := k5 z
        rw [k5]
        refine Tm_chk (n_in (by omega) (by omega)) ?_
        rw [n_cl (p := e) (by omega)]
        exact last (mSet ρ 9 e (N' 8)) _ (by rw [upd_other (by decide)]; exact k1) (by rw [upd_other (by decide)]; exact k2) (Bb_set hB) (FrM_tr hF (FrM_set (by decide) (by decide) (Or.inr k51) _))
      refine Tm_suc (fun k => by rw [x_call]) ?_
      refine Tm_ite (fun _ => ten _ (by rw [upd_other (by decide)]; exact k1) (by rw [upd_other (by decide)]; exact k2) (by rw [upd_other (by decide)]; exact k6) (fun z => by rw [upd_other (by decide)]; exact k5 z)) (fun _ => ?_)
      refine Tm_suc (fun k => by rw [x_call]) ?_
      exact ten _ (by rw [upd_other (by decide)]; exact k1) (by rw [upd_other (by decide)]; exact k2) (by rw [upd_other (by decide)]; exact k6) (fun z => by rw [upd_other (by decide)]; exact k5 z)
    refine Tm_suc (fun k => by rw [x_call]) ?_
    refine Tm_ite (fun _ => ?_) (fun z => absurd (PS_ok hS) z)
    rw [hN6]
    by_cases c0 : c = 0
    · subst c0
      rw [if_pos rfl] at hG
      have hi0 := hci rfl
      subst hi0
      refine Tm_ite (c := (0 : Int32) < nI 0) (fun z => absurd z (by decide)) (fun _ => ?_)
      refine Tm_ob (p_sign hS (s := 7) (by decide) (by decide) rfl) (fun r3 hr3 => ?_)
      obtain ⟨u, τ⟩ := r3
      obtain ⟨h3, hr3⟩ := hr3
      have h3 : τ = σ := h3
      subst h3
      refine Tm_ite (fun z => ?_) (fun z => ?_)
      · rw [if_neg (fun y => hr3.mpr y z)] at hG
        refine Tm_suc (fun k => by rw [x_call]) ?_
        refine Tm_ite (fun _ => ?_) (fun z => absurd (by rw [hN6]; rfl) z)
        refine Tm_suc (fun k => by rw [x_call]) ?_
        refine Tm_ite (fun _ => ?_) (fun z => absurd (by rw [hN6]; decide) z)
        refine Tm_suc (fun k => by rw [x_call]) ?_
        rcases gb_any hG with ⟨yf, h7, hy⟩ | ⟨s, h7, hG⟩
        · refine Tm_ob (p_exp (M := M) (P := P) h7 hS h1 hM hP (by omega) (by omega)) (fun r7 hr7 => ?_)
          obtain ⟨⟨m1, hm, hmk, hMm⟩, _, hF7⟩ := hr7
          refine Tm_ite (fun z => absurd z hm.1) (fun _ => ?_)
          exact bout r7.2 m1 _ 0 hy (by rw [upd_other (by decide), upd_other (by decide)]) (by rw [upd_other (by decide), upd_other (by decide)]) (by rw [upd_other (by decide), upd_other (by decide)]; exact hN6) (by decide) (fun z => absurd rfl z) hm hMm (by omega) hF7
        obtain ⟨⟨a1, a2, a3, a4, a5, a6, a7, a8⟩, a9⟩ := mo_of (M := M) hq.1 hv h7 hM h1 trivial (fun h => h) (fun h => h)
        have a9' := (mo_of (M := b.1) hq.1 hv h7 (Nat.le_refl _) (by omega) trivial (fun h => h) (fun h => h)).2
        have hI := g_info T n f 0 E o q v 0 0 0 0 b s (by decide) hq.1 hv (by omega) h7 trivial (fun z => absurd z (by decide))
        refine Tm_ob (p_exp (M := M) (P := P) h7 hS h1 hM hP (by omega) (by omega)) (fun r7 hr7 => ?_)
        obtain ⟨hS7, hr71, hF7⟩ := hr7
        have q1 : ∀ x8 : Int32, upd (upd N 7 x8) 8 r7.1 1 = N 1 := fun x8 => by rw [upd_other (by decide), upd_other (by decide)]
        have q2 : ∀ x8 : Int32, upd (upd N 7 x8) 8 r7.1 2 = N 2 := fun x8 => by rw [upd_other (by decide), upd_other (by decide)]
        have q6 : ∀ x8 : Int32, upd (upd N 7 x8) 8 r7.1 6 = nI 0 := fun x8 => by rw [upd_other (by decide), upd_other (by decide)]; exact hN6
        have q8 : ∀ x8 : Int32, upd (upd N 7 x8) 8 r7.1 8 = nI s.2.2.2.1 := fun x8 => by rw [upd_same]; exact hr71
        refine call_chk (M := M) (P := P) (md := md) (np := np) (σ0 := τ) (q0 := q) Q hS7 hr71 hI (by omega) (PM_fr hPM hF7) hN2 hN6 (by decide) hF7 (fun hno => ?_) (fun hyes ρ hB hF => ?_) _ _ (by rfl) (by exact PS_8 hS)
        · rw [if_neg hno] at hG
          have q1' := q1 (τ.1 8)
          have q2' := q2 (τ.1 8)
          have q6' := q6 (τ.1 8)
          have q8' := q8 (τ.1 8)
          generalize upd (upd N 7 (τ.1 8)) 8 r7.1 = N1 at q1' q2' q6' q8'
          refine Tm_suc (fun k => by rw [x_call]) ?_
          refine Tm_ite (fun _ => ?_) (fun z => absurd (by rw [q6']; rfl) z)
          refine Tm_suc (fun k => by rw [x_call]) ?_
          refine Tm_ite (fun _ => ?_) (fun z => absurd (by rw [upd_other (by decide), q6']; decide) z)
          refine Tm_suc (fun k => by rw [x_call]) ?_
          refine ih _ _ _ _ _ _ y hG r7.2 _ Q hS7 (PM_fr hPM hF7) h1 (by omega) (by omega) (by omega) (by omega) (by omega) ?_ ?_ ?_ (fun z => absurd z (by decide)) (fun _ => ⟨?_, a9.1, a9.2, a9.1, a9.2⟩) (fun ρ N' k1 k2 hF hm => ?_)
          · rw [upd_other (by decide), upd_other (by decide), upd_other (by decide), upd_other (by decide), q2']; exact hN2
          · rw [upd_other (by decide), upd_other (by decide), upd_same, upd_same, q8', hd_pos (by omega)]
          · rw [upd_same, upd_other (by decide), upd_other (by decide), q6']; rfl
          · rw [upd_other (by decide), upd_same, upd_other (by decide), upd_other (by decide)]; exact q8'
          refine hout ρ N' (k1.trans (by rw [upd_other (by decide), upd_other (by decide), upd_other (by decide), upd_other (by decide)]; exact q1')) (k2.trans (by rw [upd_other (by decide), upd_other (by decide), upd_other (by decide), upd_other (by decide)]; exact q2')) (FrM_tr hF7 hF) ?_
          cases y with
          | inl yf => obtain ⟨m, m1, m2, m3⟩ := hm; exact ⟨m, m1, m2, by omega⟩
          | inr t => exact hm
        · rw [if_pos hyes] at hG
          exact bout ρ _ _ 0 (Option.some.inj hG).symm (q1 _) (q2 _) (q6 _) (by decide) (fun z => absurd rfl z) hB (by omega) (by omega) hF
      · rw [if_pos (hr3.mp z)] at hG
        cases hG
        exact hout τ N rfl rfl FrM_rf ⟨hS, hN4, hN6⟩
    · rw [if_neg c0] at hG
      obtain ⟨hN5, e1, e2, i1, i2⟩ := hN5 c0
      refine Tm_ite (c := (0 : Int32) < nI c) (fun _ => ?_) (fun z => absurd (by rw [n_pos (by omega)]; omega) z)
      refine Tm_suc (fun k => by rw [x_call]) ?_
      refine Tm_ite (fun z => absurd ((n_eq0 (by omega)).mp (by rw [← hN6]; exact z)) c0) (fun _ => ?_)
      refine Tm_ob (p_sign hS (s := 12) (by decide) (by decide) rfl) (fun r3 hr3 => ?_)
      obtain ⟨u, τ⟩ := r3
      obtain ⟨h3, hr3⟩ := hr3
      have h3 : τ = σ := h3
      subst h3
      refine Tm_ite (fun z => ?_) (fun z => ?_)
      · rw [if_neg (fun y => hr3.mpr y z)] at hG
        cases hG
        exact hout τ N rfl rfl FrM_rf ⟨hS, hN4, hN6⟩
      have hK := hr3.mp z
      rw [if_pos hK] at hG
      have hu4 := hu.2.2.2 (by rw [hK]; decide)
      refine Tm_suc (fun k => by rw [x_call]) ?_
      refine Tm_ite (fun z => absurd ((n_le0 (by omega)).mp (by rw [← hN6]; exact z)) c0) (fun _ => ?_)
      refine Tm_ob (p_take (M := M) (P := P) (w := E.2.2.2.1) hS _) (fun r4 hr4 => ?_)
      refine Tm_suc (fun k => by rw [x_call]) ?_
      rcases gT_any hG with ⟨t4, hy⟩ | ⟨t4, hG⟩
      · rcases hr4.2 with ⟨_, hB⟩ | ⟨z, _⟩
        · refine Tm_ob (b_xexp hB.1 _) (fun r7 hr7 => ?_)
          subst hr7
          refine Tm_ite (fun z => absurd z hB.1) (fun _ => ?_)
          exact bout r4.2 _ _ c hy (by rw [upd_other (by decide), upd_other (by decide)]) (by rw [upd_other (by decide), upd_other (by decide)]) (by rw [upd_other (by decide), upd_other (by decide)]; exact hN6) (by omega) (fun _ => ⟨by rw [upd_other (by decide), upd_other (by decide)]; exact hN5, e1, e2⟩) hB hM (by omega) hr4.1
        · exact absurd t4 z
      rcases hr4.2 with ⟨z, _⟩ | ⟨_, hS4⟩
      · exact absurd z t4
      rcases gb_any hG with ⟨yf, h7, hy⟩ | ⟨s, h7, hG⟩
      · refine Tm_ob (p_exp (M := M) (P := P) h7 hS4 h1 hM hP (by omega) (by omega)) (fun r7 hr7 => ?_)
        obtain ⟨⟨m1, hm, hmk, hMm⟩, _, hF7⟩ := hr7
        refine Tm_ite (fun z => absurd z hm.1) (fun _ => ?_)
        exact bout r7.2 m1 _ c hy (by rw [upd_other (by decide), upd_other (by decide)]) (by rw [upd_other (by decide), upd_other (by decide)]) (by rw [upd_other (by decide), upd_other (by decide)]; exact hN6) (by omega) (fun _ => ⟨by rw [upd_other (by decide), upd_other (by decide)]; exact hN5, e1, e2⟩) hm hMm (by omega) (FrM_tr hr4.1 hF7)
      obtain ⟨⟨a1, a2, a3, a4, a5, a6, a7, a8⟩, a9⟩ := mo_of (M := M) hu.2.1 hv h7 hM h1 trivial (fun h => h) (fun h => h)
      have a9' := (mo_of (M := b.1) hu.2.1 hv h7 (Nat.le_refl _) (by omega) trivial (fun h => h) (fun h => h)).2
      have hI := g_info T n f 0 E o _ v 0 0 0 0 b s (by decide) hu.2.1 hv (by omega) h7 trivial (fun z => absurd z (by decide))
      refine Tm_ob (p_exp (M := M) (P := P) h7 hS4 h1 hM hP (by omega) (by omega)) (fun r7 hr7 => ?_)
      obtain ⟨hS7, hr71, hF7⟩ := hr7
      have hF7 : FrM M P E.2.2.2.1 τ r7.2 := FrM_tr hr4.1 hF7
      have q1 : ∀ x8 : Int32, upd (upd N 7 x8) 8 r7.1 1 = N 1 := fun x8 => by rw [upd_other (by decide), upd_other (by decide)]
      have q2 : ∀ x8 : Int32, upd (upd N 7 x8) 8 r7.1 2 = N 2 := fun x8 => by rw [upd_other (by decide), upd_other (by decide)]
      have q4 : ∀ x8 : Int32, upd (upd N 7 x8) 8 r7.1 4 = hd i := fun x8 => by rw [upd_other (by decide), upd_other (by decide)]; exact hN4
      have q5 : ∀ x8 : Int32, upd (upd N 7 x8) 8 r7.1 5 = nI e := fun x8 => by rw [upd_other (by decide), upd_other (by decide)]; exact hN5
      have q6 : ∀ x8 : Int32, upd (upd N 7 x8) 8 r7.1 6 = nI c := fun x8 => by rw [upd_other (by decide), upd_other (by decide)]; exact hN6
      have q8 : ∀ x8 : Int32, upd (upd N 7 x8) 8 r7.1 8 = nI s.2.2.2.1 := fun x8 => by rw [upd_same]; exact hr71
      refine call_chk (M := M) (P := P) (md := md) (np := np) (σ0 := τ) (q0 := tkN T n q) Q hS7 hr71 hI (by omega) (PM_fr hPM hF7) hN2 hN6 (by omega) hF7 (fun hno => ?_) (fun hyes ρ hB hF => ?_) _ _ (by rfl) (by exact PS_8 hS4)
      · rw [if_neg hno] at hG
        have q1' := q1 (r4.2.1 8)
        have q2' := q2 (r4.2.1 8)
        have q4' := q4 (r4.2.1 8)
        have q5' := q5 (r4.2.1 8)
        have q6' := q6 (r4.2.1 8)
        have q8' := q8 (r4.2.1 8)
        generalize upd (upd N 7 (r4.2.1 8)) 8 r7.1 = N1 at q1' q2' q4' q5' q6' q8'
        refine Tm_suc (fun k => by rw [x_call]) ?_
        refine Tm_ite (fun z => absurd ((n_eq0 (by omega)).mp (by rw [← q6']; exact z)) c0) (fun _ => ?_)
        refine Tm_suc (fun k => by rw [x_call]) ?_
        have p6 : upd N1 100 (N1 4) 6 = nI c := by rw [upd_other (by decide)]; exact q6'
        have p5 : upd N1 100 (N1 4) 5 = nI e := by rw [upd_other (by decide)]; exact q5'
        have p8 : upd N1 100 (N1 4) 8 = nI s.2.2.2.1 := by rw [upd_other (by decide)]; exact q8'
        have p1 : upd N1 100 (N1 4) 1 = N 1 := by rw [upd_other (by decide)]; exact q1'
        have p2 : upd N1 100 (N1 4) 2 = N 2 := by rw [upd_other (by decide)]; exact q2'
        have p100 : upd N1 100 (N1 4) 100 = hd i := by rw [upd_same]; exact q4'
        generalize upd N1 100 (N1 4) = N2 at p6 p5 p8 p1 p2 p100
        refine Tm_suc (fun k => by rw [x_call]) ?_
        refine Tm_ite (fun z => absurd ((n_le0 (by omega)).mp (by rw [← p6]; exact z)) c0) (fun _ => ?_)
        rw [p5, p8]
        refine Tm_chk (n_in (by omega) (by omega)) ?_
        rw [n_cl (p := e) (by omega)]
        refine Tm_suc (fun k => by rw [x_call]) ?_
        have hF8 : FrM M P E.2.2.2.1 τ (mSet r7.2 9 e (nI s.2.2.2.1)) := FrM_tr hF7 (FrM_set (by decide) (by decide) (Or.inr e1) _)
        refine ih _ _ _ _ _ _ y hG (mSet r7.2 9 e (nI s.2.2.2.1)) _ Q (PS_set hS7 (by decide) (by decide) _) (PM_fr hPM hF8) h1 (by rw [bSet_1]; omega) (by rw [bSet_p]; omega) (by rw [bSet_1]; omega) (by rw [bSet_p]; omega) (by omega) ?_ ?_ ?_ (fun z => absurd z (by omega)) (fun _ => ⟨?_, a9.1, by rw [bSet_1]; exact a9.2, i1, by rw [bSet_1]; omega⟩) (fun ρ N' k1 k2 hF hm => ?_)
        · rw [upd_other (by decide), upd_other (by decide), upd_other (by decide), p2]; exact hN2
        · rw [upd_other (by decide), upd_other (by decide), upd_same]; exact p100
        · rw [upd_same, upd_other (by decide), p6, n_add1]
        · rw [upd_other (by decide), upd_same, upd_other (by decide)]; exact p8
        refine hout ρ N' (k1.trans (by rw [upd_other (by decide), upd_other (by decide), upd_other (by decide)]; exact p1)) (k2.trans (by rw [upd_other (by decide), upd_other (by decide), upd_other (by decide)]; exact p2)) (FrM_tr hF8 hF) ?_
        cases y with
        | inl yf => obtain ⟨m, m1, m2, m3⟩ := hm; exact ⟨m, m1, m2, by rw [bSet_1] at m3; omega⟩
        | inr t => exact hm
      · rw [if_pos hyes] at hG
        exact bout ρ _ _ c (Option.some.inj hG).symm (q1 _) (q2 _) (q6 _) (by omega) (fun _ => ⟨q5 _, e1, e2⟩) hB (by omega) (by omega) hF
/-- a call, from the proc's name on -/
theorem p_call {f q v : Nat} {b : BT} {x : Fl RT} {σ : MS} {L : Nat → Int32} {tg : Int32} (hG : gCl T n f md np p tg E o q v b = some x) (hK : tkK T n q = 26) (h47 : σ.1 47 = nI p) (hPM : PM σ md np p) (hL : L 1 = tg) (hS : PS T n E o q v b σ) (h1 : 1 ≤ M) (hM : M ≤ b.1) (hP : P ≤ b.2.1) (hn : b.1 + (n + 1 - q) + 967 ≤ 70000) (hp : b.2.1 + (n - q) ≤ 70000) : Tm (fun k => x_call k 0 L σ) (Po T n E o M P (b.1 + (n + 1 - q) + 964) σ x) := by
  have hq := PS_q hS
  have hv := PS_v hS
  have ho := PS_o hS
  have hu := tkN_b T n q hq.1
  have hu4 := hu.2.2.2 (by rw [hK]; decide)
  have hp41 : p < 41 := hPM.1
  have hnp8 : np ≤ 8 := hPM.2.1
  unfold gCl at hG
  have b16 : ∀ {yf : Nat × Nat} (ρ : MS) (m : Nat) (N : Nat → Int32), Bb yf m ρ → M ≤ m → m + 1 ≤ b.1 + (n + 1 - q) + 964 → FrM M P E.2.2.2.1 σ ρ → Tm (fun k => x_call k 16 N ρ) (Po T n E o M P (b.1 + (n + 1 - q) + 964) σ (Sum.inl yf)) := fun {yf} ρ m N hB hMm hm hF => by
    refine Tm_suc (fun k => by rw [x_call]) ?_
    refine Tm_ob (b_want hB.1 _) (fun r1 hr1 => ?_)
    obtain ⟨u, τ⟩ := r1
    have hr1 : τ = ρ := hr1
    subst hr1
    refine Tm_ob (b_node (M := M) (P := P) (w := E.2.2.2.1) hB (by omega) hMm _) (fun r8 hr8 => ?_)
    exact Tm_some ⟨⟨_, hr8.2.1, hm, by omega⟩, ⟨_, hr8.1, by omega, Or.inr hMm⟩, FrM_tr hF hr8.2.2⟩
  have b14 : ∀ {yf : Nat × Nat} (ρ : MS) (m : Nat) (N : Nat → Int32), Bb yf m ρ → M ≤ m → m + 1 ≤ b.1 + (n + 1 - q) + 964 → FrM M P E.2.2.2.1 σ ρ → Tm (fun k => x_call k 14 N ρ) (Po T n E o M P (b.1 + (n + 1 - q) + 964) σ (Sum.inl yf)) := fun {yf} ρ m N hB hMm hm hF => by
    refine Tm_suc (fun k => by rw [x_call]) ?_
    refine Tm_ite (fun z => absurd z hB.1) (fun _ => ?_)
    refine Tm_suc (fun k => by rw [x_call]) ?_
    exact b16 (mOpn ρ (ρ.1 13 - 1)) m N (Bb_opn hB _) hMm hm (FrM_tr hF (FrM_opn _))
  have b13 : ∀ {yf : Nat × Nat} (ρ : MS) (m : Nat) (N : Nat → Int32), Bb yf m ρ → M ≤ m → m + 1 ≤ b.1 + (n + 1 - q) + 964 → FrM M P E.2.2.2.1 σ ρ → Tm (fun k => x_call k 13 N ρ) (Po T n E o M P (b.1 + (n + 1 - q) + 964) σ (Sum.inl yf)) := fun {yf} ρ m N hB hMm hm hF => by
    refine Tm_suc (fun k => by rw [x_call]) ?_
    exact Tm_ite (fun z => absurd z hB.1) (fun _ => b14 ρ m N hB hMm hm hF)
  have b12 : ∀ {yf : Nat × Nat} (ρ : MS) (m : Nat) (N : Nat → Int32), Bb yf m ρ → M ≤ m → m + 1 ≤ b.1 + (n + 1 - q) + 964 → FrM M P E.2.2.2.1 σ ρ → Tm (fun k => x_call k 12 N ρ) (Po T n E o M P (b.1 + (n + 1 - q) + 964) σ (Sum.inl yf)) := fun {yf} ρ m N hB hMm hm hF => by
    refine Tm_suc (fun k => by rw [x_call]) ?_
    exact Tm_ite (fun z => absurd z hB.1) (fun _ => b13 ρ m N hB hMm hm hF)
  have b3 : ∀ {yf : Nat × Nat} (ρ : MS) (N : Nat → Int32), Bb yf b.1 ρ → FrM M P E.2.2.2.1 σ ρ → Tm (fun k => x_call k 3 N ρ) (Po T n E o M P (b.1 + (n + 1 - q) + 964) σ (Sum.inl yf)) := fun {yf} ρ N hB hF => by
    refine Tm_suc (fun k => by rw [x_call]) ?_
    refine Tm_suc (fun k => by rw [x_call]) ?_
    exact Tm_ite (fun z => absurd z hB.1) (fun _ => b12 ρ _ _ hB hM (by omega) hF)
  have b2 : ∀ {yf : Nat × Nat} (ρ : MS) (N : Nat → Int32), Bb yf b.1 ρ → FrM M P E.2.2.2.1 σ ρ → Tm (fun k => x_call k 2 N ρ) (Po T n E o M P (b.1 + (n + 1 - q) + 964) σ (Sum.inl yf)) := fun {yf} ρ N hB hF => by
    refine Tm_suc (fun k => by rw [x_call]) ?_
    exact Tm_ite (fun z => absurd z hB.1) (fun _ => b3 ρ N hB hF)
  have b1 : ∀ {yf : Nat × Nat} (ρ : MS) (N : Nat → Int32), Bb yf b.1 ρ → FrM M P E.2.2.2.1 σ ρ → Tm (fun k => x_call k 1 N ρ) (Po T n E o M P (b.1 + (n + 1 - q) + 964) σ (Sum.inl yf)) := fun {yf} ρ N hB hF => by
    refine Tm_suc (fun k => by rw [x_call]) ?_
    exact Tm_ite (fun z => absurd z hB.1) (fun _ => b2 ρ N hB hF)
  refine Tm_suc (fun k => by rw [x_call]) ?_
  refine Tm_ob (p_take (M := M) (P := P) (w := E.2.2.2.1) hS _) (fun r1 hr1 => ?_)
  rw [h47]
  have n1 : upd (upd L 2 (nI p)) 3 (σ.1 8) 1 = tg := by rw [upd_other (by decide), upd_other (by decide)]; exact hL
  have n3 : upd (upd L 2 (nI p)) 3 (σ.1 8) 3 = nI q := by rw [upd_same]; exact PS_8 hS
  have n2 : upd (upd L 2 (nI p)) 3 (σ.1 8) 2 = nI p := by rw [upd_other (by decide), upd_same]
  generalize upd (upd L 2 (nI p)) 3 (σ.1 8) = N at n1 n2 n3
  rcases gT_any hG with ⟨t1, rfl⟩ | ⟨t1, hG⟩
  · rcases hr1.2 with ⟨_, hB⟩ | ⟨z, _⟩
    · exact Tm_ite (fun z => absurd z hB.1) (fun _ => b1 r1.2 N hB hr1.1)
    · exact absurd t1 z
  rcases hr1.2 with ⟨z, _⟩ | ⟨_, hS1⟩
  · exact absurd z t1
  have hw := tkN_b T n (tkN T n q) hu.2.1
  refine Tm_ite (fun _ => ?_) (fun c => absurd (PS_ok hS1) c)
  refine Tm_ob (p_sign hS1 (s := 6) (by decide) (by decide) rfl) (fun r3 hr3 => ?_)
  obtain ⟨u, τ⟩ := r3
  obtain ⟨h3, hr3⟩ := hr3
  have h3 : τ = r1.2 := h3
  subst h3
  refine Tm_ite (fun z => ?_) (fun z => ?_)
  · rw [if_neg (fun y => hr3.mpr y z)] at hG
    have hx := (Option.some.inj hG).symm
    subst hx
    refine Tm_ob (p_fault (M := M) (P := P) (w := E.2.2.2.1) (yf := (5, q)) hS1 _ (by rfl) (by rw [upd_same]; exact PS_8 hS)) (fun r5 hr5 => ?_)
    exact b1 r5.2 N hr5.1 (FrM_tr hr1.1 hr5.2)
  have hK6 := hr3.mp z
  rw [if_pos hK6] at hG
  have hw4 := hw.2.2.2 (by rw [hK6]; decide)
  refine Tm_suc (fun k => by rw [x_call]) ?_
  refine Tm_ite (fun _ => ?_) (fun c => absurd (PS_ok hS1) c)
  refine Tm_ob (p_open (M := M) (P := P) (w := E.2.2.2.1) hS1 _) (fun r4 hr4 => ?_)
  have hF4 := FrM_tr hr1.1 hr4.1
  rcases gO_any hG with ⟨o0, rfl⟩ | ⟨o0, hG⟩
  · rcases hr4.2 with ⟨_, hB⟩ | ⟨y, _⟩
    · exact b2 r4.2 N hB hF4
    · omega
  rcases hr4.2 with ⟨y, _⟩ | ⟨ho2, hS4, _⟩
  · exact absurd y o0
  refine Tm_suc (fun k => by rw [x_call]) ?_
  refine Tm_ite (fun _ => ?_) (fun c => absurd (PS_ok hS4) c)
  refine Tm_ob (p_take (M := M) (P := P) (w := E.2.2.2.1) hS4 _) (fun r5 hr5 => ?_)
  have hF5 := FrM_tr hF4 hr5.1
  rcases gT_any hG with ⟨t5, rfl⟩ | ⟨t5, hG⟩
  · rcases hr5.2 with ⟨_, hB⟩ | ⟨z, _⟩
    · exact b3 r5.2 N hB hF5
    · exact absurd t5 z
  rcases hr5.2 with ⟨z, _⟩ | ⟨_, hS5⟩
  · exact absurd z t5
  refine Tm_suc (fun k => by rw [x_call]) ?_
  obtain ⟨y, hGa, hy⟩ : ∃ y, GA T n md np E f (o + 1) (tkN T n (tkN T n q)) v 0 0 0 b = some y ∧ (match y with | Sum.inl yf => x = Sum.inl yf | Sum.inr r => (if tkK T n r.1 = 7 ∧ r.2.2.1 = np then gT T n r.1 (fun q3 => gW T n 13 q3 (fun q4 => some (Sum.inr (q4, r.2.1, 0, r.2.2.2.2.1.1, bNode r.2.2.2.2.1 45 tg (hd r.2.2.2.1) (nI p), [])))) else some (Sum.inl (if tkK T n r.1 = 7 then 6 else 2, r.1))) = some x) := by
    rcases gb_any hG with ⟨yf, h9, hy⟩ | ⟨t, h9, hG⟩
    · exact ⟨Sum.inl yf, h9, hy⟩
    · exact ⟨Sum.inr t, h9, hG⟩
  refine call_loop (M := M) (P := P) (p := p) f _ _ _ _ _ _ y hGa r5.2 (upd (upd (upd N 4 (-1)) 5 (-1)) 6 0) _ hS5 (PM_fr hPM hF5) h1 hM hP (by omega) (by omega) (by omega) (by rw [upd_other (by decide), upd_other (by decide), upd_other (by decide)]; exact n2) (by rw [upd_other (by decide), upd_other (by decide), upd_same]; rfl) (by rw [upd_same]; rfl) (fun _ => rfl) (fun z => absurd rfl z) (fun ρ N' k1 k2 hF hm => ?_)
  have k1 : N' 1 = tg := by rw [k1, upd_other (by decide), upd_other (by decide), upd_other (by decide)]; exact n1
  have k2 : N' 2 = nI p := by rw [k2, upd_other (by decide), upd_other (by decide), upd_other (by decide)]; exact n2
  have hFρ := FrM_tr hF5 hF
  cases y with
  | inl yf =>
    have hx : x = Sum.inl yf := hy
    subst hx
    obtain ⟨m, j1, j2, j3⟩ := hm
    exact b12 ρ m N' j1 j2 (by omega) hFρ
  | inr s =>
    have hG : (if tkK T n s.1 = 7 ∧ s.2.2.1 = np then gT T n s.1 (fun q3 => gW T n 13 q3 (fun q4 => some (Sum.inr (q4, s.2.1, 0, s.2.2.2.2.1.1, bNode s.2.2.2.2.1 45 tg (hd s.2.2.2.1) (nI p), [])))) else some (Sum.inl (if tkK T n s.1 = 7 then 6 else 2, s.1))) = some x := hy
    obtain ⟨hSs, m4, m6⟩ := hm
    obtain ⟨⟨a1, a2, a3, a4, a5, a6, a7, a8⟩, a9, a10⟩ := ga_mo f _ _ _ _ _ _ _ s M hw.2.1 hv hGa hM h1 (Nat.zero_le _) (Or.inl rfl)
    have hws := tkN_b T n s.1 a2
    have hPMρ := PM_fr hPM hFρ
    refine Tm_suc (fun k => by rw [x_call]) ?_
    refine Tm_ite (fun _ => ?_) (fun z => absurd (PS_ok hSs) z)
    refine Tm_ob (p_sign hSs (s := 7) (by decide) (by decide) rfl) (fun ra hra => ?_)
    obtain ⟨u, τ⟩ := ra
    obtain ⟨h3, hra⟩ := hra
    have h3 : τ = ρ := h3
    subst h3
    refine Tm_ite (fun z => ?_) (fun z => ?_)
    · rw [if_neg (fun y => hra.mpr y.1 z), if_neg (fun y => hra.mpr y z)] at hG
      have hx := (Option.some.inj hG).symm
      subst hx
      refine Tm_ob (p_cannot (M := M) (P := P) (w := E.2.2.2.1) hSs _) (fun rc hrc => ?_)
      exact b13 rc.2 _ N' hrc.1 (by omega) (by omega) (FrM_tr hFρ hrc.2)
    have hK7 := hra.mp z
    refine Tm_suc (fun k => by rw [x_call]) ?_
    refine Tm_ite (fun _ => ?_) (fun z => absurd (PS_ok hSs) z)
    rw [k2]
    refine Tm_chk (n_in (by omega) (by omega)) ?_
    rw [n_cl (p := p) (by omega), hPMρ.2.2.1, m6]
    refine Tm_ite (c := nI s.2.2.1 = nI np) (fun z => ?_) (fun z => ?_)
    · rw [n_eq (by omega) (by omega)] at z
      rw [if_pos ⟨hK7, z⟩] at hG
      have hws4 := hws.2.2.2 (by rw [hK7]; decide)
      refine Tm_suc (fun k => by rw [x_call]) ?_
      refine Tm_ite (fun _ => ?_) (fun z => absurd (PS_ok hSs) z)
      refine Tm_ob (p_take (M := M) (P := P) (w := E.2.2.2.1) hSs _) (fun rt hrt => ?_)
      refine Tm_suc (fun k => by rw [x_call]) ?_
      rcases gT_any hG with ⟨t6, rfl⟩ | ⟨t6, hG⟩
      · rcases hrt.2 with ⟨_, hB⟩ | ⟨y, _⟩
        · exact b16 (mOpn rt.2 (rt.2.1 13 - 1)) _ N' (Bb_opn hB _) (by omega) (by omega) (FrM_tr hFρ (FrM_tr hrt.1 (FrM_opn _)))
        · exact absurd t6 y
      rcases hrt.2 with ⟨y, _⟩ | ⟨_, hSt⟩
      · exact absurd y t6
      have hFt : FrM M P E.2.2.2.1 σ (mOpn rt.2 (rt.2.1 13 - 1)) := FrM_tr hFρ (FrM_tr hrt.1 (FrM_opn _))
      show Tm (fun k => x_call k 16 N' (mOpn rt.2 (rt.2.1 13 - 1))) _
      refine Tm_suc (fun k => by rw [x_call]) ?_
      refine Tm_ob (p_want (M := M) (P := P) (w := E.2.2.2.1) (PS_clo hSt) (s := 13) (by decide) (by decide) rfl) (fun rw' hrw => ?_)
      rcases gW_any hG with ⟨t7, rfl⟩ | ⟨t7, hG⟩
      · rcases hrw.2 with ⟨_, hB⟩ | ⟨y, _⟩
        · refine Tm_ob (b_node (M := M) (P := P) (w := E.2.2.2.1) hB (by omega) (by omega) _) (fun r8 hr8 => ?_)
          exact Tm_some ⟨⟨_, hr8.2.1, by omega, by omega⟩, ⟨_, hr8.1, by omega, Or.inr (by omega)⟩, FrM_tr hFt (FrM_tr hrw.1 hr8.2.2)⟩
        · exact absurd y t7
      rcases hrw.2 with ⟨y, _⟩ | ⟨_, hSw⟩
      · exact absurd t7 y
      refine Tm_ob (p_node (M := M) (P := P) (w := E.2.2.2.1) hSw (by omega) (by omega) _) (fun r8 hr8 => ?_)
      obtain ⟨hr81, hS8, hF8⟩ := hr8
      cases hG
      refine Tm_some ⟨?_, hr81, FrM_tr hFt (FrM_tr hrw.1 hF8)⟩
      have w2 : (upd (upd (upd (upd (fun _ => (0 : Int32)) 1 45) 2 (N' 1)) 3 (N' 4)) 4 (N' 2)) 2 = tg := by rw [upd_other (by decide), upd_other (by decide), upd_same]; exact k1
      have w3 : (upd (upd (upd (upd (fun _ => (0 : Int32)) 1 45) 2 (N' 1)) 3 (N' 4)) 4 (N' 2)) 3 = hd s.2.2.2.1 := by rw [upd_other (by decide), upd_same]; exact m4
      have w4 : (upd (upd (upd (upd (fun _ => (0 : Int32)) 1 45) 2 (N' 1)) 3 (N' 4)) 4 (N' 2)) 4 = nI p := by rw [upd_same]; exact k2
      rw [w2, w3, w4] at hS8
      exact hS8
    · rw [n_eq (by omega) (by omega)] at z
      rw [if_neg (fun y => z y.2), if_pos hK7] at hG
      have hx := (Option.some.inj hG).symm
      subst hx
      refine Tm_ob (p_fault (M := M) (P := P) (w := E.2.2.2.1) (yf := (6, s.1)) hSs _ (by rfl) (by exact PS_8 hSs)) (fun rc hrc => ?_)
      exact b14 rc.2 _ N' hrc.1 (by omega) (by omega) (FrM_tr hFρ hrc.2)
end CALL
end JnS55
section JnS56
variable {yf : Nat × Nat}
/-! Simple statements. -/
/-- the exps of a print behind the first -/
def GPr (T : Nat → Int32) (n : Nat) (E : En) : Nat → Nat → Nat → Nat → Nat → BT → RG
  | 0, _, _, _, _, _ => none
  | f + 1, o, q, v, e, b => if tkK T n q = 12 then gT T n q (fun q1 => gb (G T n f 0 E o q1 v 0 0 0 0 b) (fun r => GPr T n E f o r.1 r.2.1 r.2.2.2.1 (bSet r.2.2.2.2.1 9 e (nI r.2.2.2.1)))) else some (Sum.inr (q, v, 0, e, b, []))
def gS13 (T : Nat → Int32) (n q v e : Nat) (b : BT) : RG := gW T n 13 q (fun q2 => some (Sum.inr (q2, v, 0, e, b, [])))
def gSm0 (T : Nat → Int32) (n f : Nat) (E : En) (o w q v : Nat) (b : BT) : RG :=
  if w = 19 then (if tkK T n q = 13 then gS13 T n q v b.1 (bNode b 51 (-1) 0 0) else gb (G T n f 0 E o q v 0 0 0 0 b) (fun r => gS13 T n r.1 r.2.1 r.2.2.2.2.1.1 (bNode r.2.2.2.2.1 51 (nI r.2.2.2.1) 0 0)))
  else if w = 20 then (if tkK T n q = 6 then gO o q (gT T n q (fun q2 => gb (G T n f 0 E (o + 1) q2 v 0 0 0 0 b) (fun r => gb (GPr T n E f (o + 1) r.1 r.2.1 r.2.2.2.1 r.2.2.2.2.1) (fun s => gW T n 7 s.1 (fun q3 => gS13 T n q3 s.2.1 s.2.2.2.2.1.1 (bNode s.2.2.2.2.1 52 (nI r.2.2.2.1) 0 0)))))) else some (Sum.inl (2, q)))
  else if w = 21 then gb (G T n f 0 E o q v 0 0 0 0 b) (fun r => gS13 T n r.1 r.2.1 r.2.2.2.2.1.1 (bNode r.2.2.2.2.1 53 (nI r.2.2.2.1) 0 0))
  else gS13 T n q v b.1 (bNode b (nI (w + 32)) 0 0 0)
def gSm (T : Nat → Int32) (n f lp : Nat) (E : En) (o q v : Nat) (b : BT) : RG :=
  if ((tkK T n q = 49 ∨ tkK T n q = 50) ∧ lp = 0) ∨ (tkK T n q = 51 ∧ (E.2.2.2.1 = 0 ∨ 41 < E.2.2.2.1)) then some (Sum.inl (7, q)) else gT T n q (fun q1 => gSm0 T n f E o (tkK T n q - 32) q1 v b)
section SIM
variable {T : Nat → Int32} {n : Nat} {E : En} {o M P : Nat}
theorem gpr_mo : ∀ (f : Nat) (o q v e : Nat) (b : BT) (r : RT) (M : Nat), q ≤ n → v ≤ 60 → GPr T n E f o q v e b = some (Sum.inr r) → M ≤ b.1 → 1 ≤ M → M ≤ e → e < b.1 → Mo n b q v r ∧ (M ≤ r.2.2.2.1 ∧ r.2.2.2.1 < r.2.2.2.2.1.1)
  | 0, o, q, v, e, b, r, M, _, _, hG, _, _, _, _ => by simp only [GPr] at hG; cases hG
  | f + 1, o, q, v, e, b, r, M, hq, hv, hG, hM, h1, e1, e2 => by
    simp only [GPr] at hG
    by_cases k12 : tkK T n q = 12
    · rw [if_pos k12] at hG
      obtain ⟨_, hG⟩ := gT_s hG
      have hu := tkN_b T n q hq
      obtain ⟨s, h7, hG⟩ := gb_s hG
      obtain ⟨⟨a1, a2, a3, a4, a5, a6, a7, a8⟩, a9⟩ := mo_of (M := M) hu.2.1 hv h7 hM h1 trivial (fun h => h) (fun h => h)
      obtain ⟨⟨b1, b2, b3, b4, b5, b6, b7, b8⟩, b9⟩ := gpr_mo f _ _ _ _ _ r M a2 (by omega) hG (by rw [bSet_1]; omega) h1 a9.1 (by rw [bSet_1]; exact a9.2)
      rw [bSet_1] at b5 b6
      rw [bSet_p] at b7 b8
      exact ⟨by unfold Mo; omega, b9⟩
    · rw [if_neg k12] at hG; cases hG
      exact ⟨by unfold Mo; dsimp only; omega, e1, e2⟩
theorem gpr_tot : ∀ (f o q v e : Nat) (b : BT), q ≤ n → v ≤ 60 → 1 ≤ b.1 → 30 * (n - q) + 23 ≤ f → ∃ y, GPr T n E f o q v e b = some y
  | 0, o, q, v, e, b, _, _, _, hf => absurd hf (by omega)
  | f + 1, o, q, v, e, b, hq, hv, hb, hf => by
    simp only [GPr]
    by_cases k12 : tkK T n q = 12
    · rw [if_pos k12]
      have hu := tkN_b T n q hq
      have hu4 := hu.2.2.2 (by rw [k12]; decide)
      refine gT_t ?_
      refine gb_t (g_tot T n f 0 E o _ v 0 0 0 0 b (by decide) hu.2.1 hv hb trivial (by simp only [lvG]; omega)) (fun s h7 => ?_)
      obtain ⟨⟨a1, a2, a3, a4, a5, a6, a7, a8⟩, a9⟩ := mo_of (M := b.1) hu.2.1 hv h7 (Nat.le_refl _) hb trivial (fun h => h) (fun h => h)
      exact gpr_tot f _ _ _ _ _ a2 (by omega) (by rw [bSet_1]; omega) (by omega)
    · rw [if_neg k12]; exact ⟨_, rfl⟩
theorem print_loop : ∀ (f : Nat) (q v e : Nat) (b : BT) (y : Fl RT), GPr T n E f o q v e b = some y → ∀ (σ : MS) (N : Nat → Int32) (Q : Int32 × MS → Prop), PS T n E o q v b σ → 1 ≤ M → M ≤ b.1 → P ≤ b.2.1 → b.1 + (n + 1 - q) + 967 ≤ 70000 → b.2.1 + (n - q) ≤ 70000 → N 4 = nI e → M ≤ e → e < b.1 →
    (∀ (ρ : MS) (N' : Nat → Int32), N' 3 = N 3 → FrM M P E.2.2.2.1 σ ρ → (match y with
      | Sum.inl yf => ∃ m, Bb yf m ρ ∧ M ≤ m ∧ m ≤ b.1 + (n + 1 - q) + 963
      | Sum.inr s => PS T n E o s.1 s.2.1 s.2.2.2.2.1 ρ) → Tm (fun k => x_simple k 18 N' ρ) Q) → Tm (fun k => x_simple k 16 N σ) Q
  | 0 => fun q v e b y hG => by simp only [GPr] at hG; cases hG
  | f + 1 => fun q v e b y hG σ N Q hS h1 hM hP hn hp hN4 e1 e2 hout => by
    simp only [GPr] at hG
    have hq := PS_q hS
    have hv := PS_v hS
    have hu := tkN_b T n q hq.1
    have ih := print_loop f
    refine Tm_suc (fun k => by rw [x_simple]) ?_
    refine Tm_ite (fun _ => ?_) (fun z => absurd (PS_ok hS) z)
    refine Tm_ob (p_sign hS (s := 12) (by decide) (by decide) rfl) (fun r3 hr3 => ?_)
    obtain ⟨u, τ⟩ := r3
    obtain ⟨h3, hr3⟩ := hr3
    have h3 : τ = σ := h3
    subst h3
    refine Tm_ite (fun z => ?_) (fun z => ?_)
    · rw [if_neg (fun y => hr3.mpr y z)] at hG
      cases hG
      exact hout τ N rfl FrM_rf hS
    have hK := hr3.mp z
    rw [if_pos hK] at hG
    have hu4 := hu.2.2.2 (by rw [hK]; decide)
    have bout : ∀ {yf : Nat × Nat} (ρ : MS) (m : Nat) (x : Int32), y = Sum.inl yf → Bb yf m ρ → M ≤ m → m ≤ b.1 + (n + 1 - q) + 963 → FrM M P E.2.2.2.1 τ ρ → Tm (fun k => x_simple k 17 (upd N 5 x) (mSet ρ 9 e x)) Q := fun {yf} ρ m x hy hB hMm hm hF => by
      subst hy
      refine Tm_suc (fun k => by rw [x_simple]) ?_
      refine Tm_suc (fun k => by rw [x_simple]) ?_
      refine Tm_ite (fun z => absurd z hB.1) (fun _ => ?_)
      exact hout (mSet ρ 9 e x) _ (by rw [upd_other (by decide), upd_other (by decide)]) (FrM_tr hF (FrM_set (by decide) (by decide) (Or.inr e1) _)) ⟨m, Bb_set hB, hMm, hm⟩
    refine Tm_ob (p_take (M := M) (P := P) (w := E.2.2.2.1) hS _) (fun r4 hr4 => ?_)
    rcases gT_any hG with ⟨t4, hy⟩ | ⟨t4, hG⟩
    · rcases hr4.2 with ⟨_, hB⟩ | ⟨z, _⟩
      · refine Tm_ob (b_xexp hB.1 _) (fun r7 hr7 => ?_)
        subst hr7
        rw [hN4]
        refine Tm_chk (n_in (by omega) (by omega)) ?_
        rw [n_cl (p := e) (by omega)]
        exact bout r4.2 b.1 0 hy hB hM (by omega) hr4.1
      · exact absurd t4 z
    rcases hr4.2 with ⟨z, _⟩ | ⟨_, hS4⟩
    · exact absurd z t4
    rcases gb_any hG with ⟨yf, h7, hy⟩ | ⟨s, h7, hG⟩
    · refine Tm_ob (p_exp (M := M) (P := P) h7 hS4 h1 hM hP (by omega) (by omega)) (fun r7 hr7 => ?_)
      obtain ⟨⟨m1, hm, hmk, hMm⟩, _, hF7⟩ := hr7
      rw [hN4]
      refine Tm_chk (n_in (by omega) (by omega)) ?_
      rw [n_cl (p := e) (by omega)]
      exact bout r7.2 m1 _ hy hm hMm (by omega) (FrM_tr hr4.1 hF7)
    obtain ⟨⟨a1, a2, a3, a4, a5, a6, a7, a8⟩, a9⟩ := mo_of (M := M) hu.2.1 hv h7 hM h1 trivial (fun h => h) (fun h => h)
    refine Tm_ob (p_exp (M := M) (P := P) h7 hS4 h1 hM hP (by omega) (by omega)) (fun r7 hr7 => ?_)
    obtain ⟨hS7, hr71, hF7⟩ := hr7
    rw [hN4]
    refine Tm_chk (n_in (by omega) (by omega)) ?_
    rw [n_cl (p := e) (by omega)]
    rw [hr71]
    refine Tm_suc (fun k => by rw [x_simple]) ?_
    have hF8 : FrM M P E.2.2.2.1 τ (mSet r7.2 9 e (nI s.2.2.2.1)) := FrM_tr hr4.1 (FrM_tr hF7 (FrM_set (by decide) (by decide) (Or.inr e1) _))
    refine ih _ _ _ _ _ hG (mSet r7.2 9 e (nI s.2.2.2.1)) _ Q (PS_set hS7 (by decide) (by decide) _) h1 (by rw [bSet_1]; omega) (by rw [bSet_p]; omega) (by rw [bSet_1]; omega) (by rw [bSet_p]; omega) (by rw [upd_same, upd_same]) a9.1 (by rw [bSet_1]; exact a9.2) ?_
    intro ρ N' k3 hF hm
    refine hout ρ N' (by rw [k3, upd_other (by decide), upd_other (by decide)]) (FrM_tr hF8 hF) ?_
    cases y with
    | inl yf =>
      obtain ⟨m, j1, j2, j3⟩ := hm
      rw [bSet_1] at j3
      exact ⟨m, j1, j2, by omega⟩
    | inr s => exact hm
end SIM
end JnS56
section JnS57
variable {yf : Nat × Nat}
/-! Simple statements: the reference's. -/
section SIM
variable {T : Nat → Int32} {n : Nat} {E : En} {o M P : Nat}
theorem is_n {x : Int32} {w s : Nat} (h : x = nI w) (hw : w < 2147483648) (hs : s < 2147483648) : (x = nI s ↔ w = s) := by rw [h]; exact n_eq hw hs
theorem up4 {a b c d : Int32} : upd (upd (upd (upd (fun _ => (0 : Int32)) 1 a) 2 b) 3 c) 4 d 1 = a ∧ upd (upd (upd (upd (fun _ => (0 : Int32)) 1 a) 2 b) 3 c) 4 d 2 = b ∧ upd (upd (upd (upd (fun _ => (0 : Int32)) 1 a) 2 b) 3 c) 4 d 3 = c ∧ upd (upd (upd (upd (fun _ => (0 : Int32)) 1 a) 2 b) 3 c) 4 d 4 = d :=
  ⟨by rw [upd_other (by decide), upd_other (by decide), upd_other (by decide), upd_same], by rw [upd_other (by decide), upd_other (by decide), upd_same], by rw [upd_other (by decide), upd_same], upd_same⟩
/-- a node of a kind and three fields -/
theorem p_nd {q v w : Nat} {b : BT} {σ : MS} {a x y z : Int32} (h : PS T n E o q v b σ) (hm : b.1 < 70000) (hM : M ≤ b.1) : Tm (fun k => x_node k 0 (upd (upd (upd (upd (fun _ => 0) 1 a) 2 x) 3 y) 4 z) σ) (fun r => r.1 = nI b.1 ∧ PS T n E o q v (bNode b a x y z) r.2 ∧ FrM M P w σ r.2) := by
  have u4 := @up4 a x y z
  refine Tm_mono (p_node (M := M) (P := P) (w := w) h hm hM _) (fun r hr => ?_)
  rw [u4.1, u4.2.1, u4.2.2.1, u4.2.2.2] at hr
  exact hr
theorem sm25 {q v e K : Nat} {b : BT} {x : Fl RT} {σ ρ : MS} {N : Nat → Int32} (hG : gS13 T n q v e b = some x) (hS : PS T n E o q v b ρ) (hF : FrM M P E.2.2.2.1 σ ρ) (hN : N 2 = nI e) (he : M ≤ e) (he2 : e < 70000) (hK : b.1 ≤ K) (hM : M ≤ b.1) : Tm (fun k => x_simple k 25 N ρ) (Po T n E o M P K σ x) := by
  unfold gS13 at hG
  refine Tm_suc (fun k => by rw [x_simple]) ?_
  refine Tm_ob (p_want (M := M) (P := P) (w := E.2.2.2.1) hS (s := 13) (by decide) (by decide) rfl) (fun r hr => ?_)
  rcases gW_any hG with ⟨t, rfl⟩ | ⟨t, hG⟩
  · rcases hr.2 with ⟨_, hB⟩ | ⟨y, _⟩
    · exact Tm_some ⟨⟨_, hB, by omega, hM⟩, ⟨e, hN, he2, Or.inr he⟩, FrM_tr hF hr.1⟩
    · exact absurd y t
  rcases hr.2 with ⟨y, _⟩ | ⟨_, hS2⟩
  · exact absurd t y
  cases hG
  exact Tm_some ⟨hS2, hN, FrM_tr hF hr.1⟩
theorem sm25b {m e K : Nat} {σ ρ : MS} {N : Nat → Int32} (hB : Bb yf m ρ) (hF : FrM M P E.2.2.2.1 σ ρ) (hN : N 2 = nI e) (he : M ≤ e) (he2 : e < 70000) (hK : m ≤ K) (hM : M ≤ m) : Tm (fun k => x_simple k 25 N ρ) (Po T n E o M P K σ (Sum.inl yf)) := by
  refine Tm_suc (fun k => by rw [x_simple]) ?_
  refine Tm_ob (b_want hB.1 _) (fun r hr => ?_)
  obtain ⟨u, τ⟩ := r
  have hr : τ = ρ := hr
  subst hr
  exact Tm_some ⟨⟨_, hB, by omega, hM⟩, ⟨e, hN, he2, Or.inr he⟩, hF⟩
/-- a node after a fault, then the end -/
theorem smN {m K : Nat} {σ ρ : MS} {N L : Nat → Int32} (hB : Bb yf m ρ) (hF : FrM M P E.2.2.2.1 σ ρ) (hm : m < 70000) (hK : m + 1 ≤ K) (hM : M ≤ m) : Tm (fun k => ob (x_node k 0 L ρ) (fun r1 => x_simple k 25 (upd N 2 r1.1) r1.2)) (Po T n E o M P K σ (Sum.inl yf)) := by
  refine Tm_ob (b_node (M := M) (P := P) (w := E.2.2.2.1) hB hm hM _) (fun r hr => ?_)
  exact sm25b hr.2.1 (FrM_tr hF hr.2.2) (by rw [upd_same]; exact hr.1) hM hm hK (by omega)
theorem sm19b {m K : Nat} {σ ρ : MS} {N : Nat → Int32} (hB : Bb yf m ρ) (hF : FrM M P E.2.2.2.1 σ ρ) (hm : m < 70000) (hK : m + 1 ≤ K) (hM : M ≤ m) : Tm (fun k => x_simple k 18 N ρ) (Po T n E o M P K σ (Sum.inl yf)) := by
  refine Tm_suc (fun k => by rw [x_simple]) ?_
  refine Tm_ob (b_want hB.1 _) (fun r hr => ?_)
  obtain ⟨u, τ⟩ := r
  have hr : τ = ρ := hr
  subst hr
  show Tm (fun k => x_simple k 19 N (mOpn τ (τ.1 13 - 1))) _
  refine Tm_suc (fun k => by rw [x_simple]) ?_
  exact smN (Bb_opn hB _) (FrM_tr hF (FrM_opn _)) hm hK hM
theorem sm15b {m K : Nat} {σ ρ : MS} {N : Nat → Int32} (hB : Bb yf m ρ) (hF : FrM M P E.2.2.2.1 σ ρ) (hm : m < 70000) (hK : m + 1 ≤ K) (hM : M ≤ m) : Tm (fun k => x_simple k 15 N ρ) (Po T n E o M P K σ (Sum.inl yf)) := by
  refine Tm_suc (fun k => by rw [x_simple]) ?_
  refine Tm_ob (b_xexp hB.1 _) (fun r hr => ?_)
  subst hr
  refine Tm_suc (fun k => by rw [x_simple]) ?_
  refine Tm_ite (fun z => absurd z hB.1) (fun _ => ?_)
  exact sm19b hB hF hm hK hM
theorem sm13b {m K : Nat} {σ ρ : MS} {N : Nat → Int32} (hB : Bb yf m ρ) (hF : FrM M P E.2.2.2.1 σ ρ) (hm : m < 70000) (hK : m + 1 ≤ K) (hM : M ≤ m) : Tm (fun k => x_simple k 13 N ρ) (Po T n E o M P K σ (Sum.inl yf)) := by
  refine Tm_suc (fun k => by rw [x_simple]) ?_
  refine Tm_ite (fun z => absurd z hB.1) (fun _ => ?_)
  refine Tm_suc (fun k => by rw [x_simple]) ?_
  refine Tm_ite (fun z => absurd z hB.1) (fun _ => ?_)
  exact sm15b hB hF hm hK hM
/-- after the word: a fault -/
theorem sm4b {m w K : Nat} {σ ρ : MS} {N : Nat → Int32} (hB : Bb yf m ρ) (hF : FrM M P E.2.2.2.1 σ ρ) (hN : N 1 = nI w) (hw : w < 60) (hm : m < 70000) (hK : m + 1 ≤ K) (hM : M ≤ m) : Tm (fun k => if (N 1) = 17 then (x_simple k 5 (upd N 2 0) ρ) else (if (N 1) = 18 then (x_simple k 5 (upd N 2 0) ρ) else (x_simple k 8 (upd N 2 0) ρ))) (Po T n E o M P K σ (Sum.inl yf)) := by
  have hN' : upd N 2 0 1 = nI w := by rw [upd_other (by decide)]; exact hN
  generalize upd N 2 0 = N' at hN'
  have b7 : ∀ N2 : Nat → Int32, Tm (fun k => x_simple k 7 N2 ρ) (Po T n E o M P K σ (Sum.inl yf)) := fun N2 => by
    refine Tm_suc (fun k => by rw [x_simple]) ?_
    exact smN hB hF hm hK hM
  have b5 : Tm (fun k => x_simple k 5 N' ρ) (Po T n E o M P K σ (Sum.inl yf)) := by
    refine Tm_suc (fun k => by rw [x_simple]) ?_
    refine Tm_ite (fun _ => b7 _) (fun _ => ?_)
    refine Tm_suc (fun k => by rw [x_simple]) ?_
    exact b7 _
  have b24 : ∀ N2 : Nat → Int32, Tm (fun k => x_simple k 24 N2 ρ) (Po T n E o M P K σ (Sum.inl yf)) := fun N2 => by
    refine Tm_suc (fun k => by rw [x_simple]) ?_
    exact smN hB hF hm hK hM
  have b11 : ∀ N2 : Nat → Int32, Tm (fun k => x_simple k 11 N2 ρ) (Po T n E o M P K σ (Sum.inl yf)) := fun N2 => by
    refine Tm_suc (fun k => by rw [x_simple]) ?_
    exact smN hB hF hm hK hM
  refine Tm_ite (fun _ => b5) (fun _ => Tm_ite (fun _ => b5) (fun _ => ?_))
  refine Tm_suc (fun k => by rw [x_simple]) ?_
  refine Tm_ite (fun _ => ?_) (fun _ => ?_)
  · refine Tm_ite (fun z => absurd z hB.1) (fun _ => ?_)
    refine Tm_suc (fun k => by rw [x_simple]) ?_
    exact b11 _
  refine Tm_suc (fun k => by rw [x_simple]) ?_
  refine Tm_ite (fun _ => ?_) (fun _ => ?_)
  · refine Tm_ite (fun z => absurd z hB.1) (fun _ => ?_)
    exact sm13b hB hF hm hK hM
  refine Tm_suc (fun k => by rw [x_simple]) ?_
  refine Tm_ite (fun _ => ?_) (fun _ => ?_)
  · refine Tm_ob (b_xexp hB.1 _) (fun r hr => ?_)
    subst hr
    exact smN hB hF hm hK hM
  refine Tm_suc (fun k => by rw [x_simple]) ?_
  refine Tm_ite (fun _ => b24 _) (fun _ => ?_)
  refine Tm_suc (fun k => by rw [x_simple]) ?_
  refine Tm_ite (fun _ => b24 _) (fun _ => ?_)
  refine Tm_suc (fun k => by rw [x_simple]) ?_
  exact b24 _
theorem sm_print {f q v K : Nat} {b : BT} {x : Fl RT} {σ σ1 : MS} {N' : Nat → Int32} (hG : (if tkK T n q = 6 then gO o q (gT T n q (fun q2 => gb (G T n f 0 E (o + 1) q2 v 0 0 0 0 b) (fun r => gb (GPr T n E f (o + 1) r.1 r.2.1 r.2.2.2.1 r.2.2.2.2.1) (fun s => gW T n 7 s.1 (fun q3 => gS13 T n q3 s.2.1 s.2.2.2.2.1.1 (bNode s.2.2.2.2.1 52 (nI r.2.2.2.1) 0 0)))))) else some (Sum.inl (2, q))) = some x) (hS1 : PS T n E o q v b σ1) (hF1 : FrM M P E.2.2.2.1 σ σ1) (h1 : 1 ≤ M) (hM : M ≤ b.1) (hP : P ≤ b.2.1) (hn : b.1 + (n + 1 - q) + 967 ≤ 70000) (hp : b.2.1 + (n - q) ≤ 70000) (hK : b.1 + (n + 1 - q) + 964 ≤ K) : Tm (fun k => if σ1.1 10 = 0 then (ob (x_isSign k 0 (upd (fun _ => 0) 1 6) σ1) (fun r3 => if r3.1 = 0 then (ob (x_cannot k 0 (fun _ => 0) r3.2) (fun r5 => x_simple k 13 N' r5.2)) else (x_simple k 13 N' r3.2))) else (x_simple k 13 N' σ1)) (Po T n E o M P K σ x) := by
  have hq := PS_q hS1
  have hv := PS_v hS1
  have ho := PS_o hS1
  have hu1 := tkN_b T n q hq.1
  refine Tm_ite (fun _ => ?_) (fun y => absurd (PS_ok hS1) y)
  refine Tm_ob (p_sign hS1 (s := 6) (by decide) (by decide) rfl) (fun r3 hr3 => ?_)
  obtain ⟨u, τ⟩ := r3
  obtain ⟨h3, hr3⟩ := hr3
  have h3 : τ = σ1 := h3
  subst h3
  refine Tm_ite (fun y => ?_) (fun y => ?_)
  · rw [if_neg (fun t => hr3.mpr t y)] at hG
    have hx := (Option.some.inj hG).symm
    subst hx
    refine Tm_ob (p_cannot (M := M) (P := P) (w := E.2.2.2.1) hS1 _) (fun rc hrc => ?_)
    exact sm13b hrc.1 (FrM_tr hF1 hrc.2) (by omega) (by omega) hM
  have hK6 := hr3.mp y
  rw [if_pos hK6] at hG
  have hu14 := hu1.2.2.2 (by rw [hK6]; decide)
  refine Tm_suc (fun k => by rw [x_simple]) ?_
  refine Tm_ite (fun _ => ?_) (fun y => absurd (PS_ok hS1) y)
  refine Tm_ob (p_open (M := M) (P := P) (w := E.2.2.2.1) hS1 _) (fun r4 hr4 => ?_)
  rcases gO_any hG with ⟨t4, rfl⟩ | ⟨t4, hG⟩
  · rcases hr4.2 with ⟨_, hB⟩ | ⟨y, _⟩
    · refine Tm_suc (fun k => by rw [x_simple]) ?_
      refine Tm_ite (fun z => absurd z hB.1) (fun _ => ?_)
      exact sm15b hB (FrM_tr hF1 hr4.1) (by omega) (by omega) hM
    · omega
  rcases hr4.2 with ⟨y, _⟩ | ⟨_, hS4, _⟩
  · exact absurd y t4
  refine Tm_suc (fun k => by rw [x_simple]) ?_
  refine Tm_ite (fun _ => ?_) (fun y => absurd (PS_ok hS4) y)
  refine Tm_ob (p_take (M := M) (P := P) (w := E.2.2.2.1) hS4 _) (fun r5 hr5 => ?_)
  have hF5 := FrM_tr hF1 (FrM_tr hr4.1 hr5.1)
  rcases gT_any hG with ⟨t5, rfl⟩ | ⟨t5, hG⟩
  · rcases hr5.2 with ⟨_, hB⟩ | ⟨z, _⟩
    · exact sm15b hB hF5 (by omega) (by omega) hM
    · exact absurd t5 z
  rcases hr5.2 with ⟨z, _⟩ | ⟨_, hS5⟩
  · exact absurd z t5
  refine Tm_suc (fun k => by rw [x_simple]) ?_
  rcases gb_any hG with ⟨yf, h7, hy⟩ | ⟨s, h7, hG⟩
  · subst hy
    refine Tm_ob (p_exp (M := M) (P := P) h7 hS5 h1 hM hP (by omega) (by omega)) (fun r2 hr2 => ?_)
    obtain ⟨⟨m1, hm, hmk, hMm⟩, _, hF2⟩ := hr2
    refine Tm_suc (fun k => by rw [x_simple]) ?_
    refine Tm_ite (fun z => absurd z hm.1) (fun _ => ?_)
    exact sm19b hm (FrM_tr hF5 hF2) (by omega) (by omega) hMm
  obtain ⟨⟨a1, a2, a3, a4, a5, a6, a7, a8⟩, a9⟩ := mo_of (M := M) hu1.2.1 hv h7 hM h1 trivial (fun h => h) (fun h => h)
  refine Tm_ob (p_exp (M := M) (P := P) h7 hS5 h1 hM hP (by omega) (by omega)) (fun r2 hr2 => ?_)
  obtain ⟨hS2, hr21, hF2⟩ := hr2
  have hF2 := FrM_tr hF5 hF2
  obtain ⟨y, hy⟩ : ∃ y, GPr T n E f (o + 1) s.1 s.2.1 s.2.2.2.1 s.2.2.2.2.1 = some y := by
    rcases gb_any hG with ⟨yf, h, _⟩ | ⟨t, h, _⟩
    · exact ⟨_, h⟩
    · exact ⟨_, h⟩
  refine print_loop (M := M) (P := P) f _ _ _ _ y hy r2.2 _ _ hS2 h1 (by omega) (by omega) (by omega) (by omega) (by rw [upd_same]; exact hr21) a9.1 a9.2 ?_
  intro ρ N3 k3 hFρ hm
  rw [upd_other (by decide), upd_same] at k3
  have hFρ := FrM_tr hF2 hFρ
  rw [hy] at hG
  cases y with
  | inl yf =>
    obtain ⟨m, j1, j2, j3⟩ := hm
    have hx := (Option.some.inj hG).symm
    subst hx
    exact sm19b j1 hFρ (by omega) (by omega) j2
  | inr t =>
    have hG : gW T n 7 t.1 (fun q3 => gS13 T n q3 t.2.1 t.2.2.2.2.1.1 (bNode t.2.2.2.2.1 52 (nI s.2.2.2.1) 0 0)) = some x := hG
    have hm : PS T n E (o + 1) t.1 t.2.1 t.2.2.2.2.1 ρ := hm
    obtain ⟨⟨b1, b2, b3, b4, b5, b6, b7, b8⟩, b9⟩ := gpr_mo f _ _ _ _ _ t M a2 (by omega) hy (by omega) h1 a9.1 a9.2
    refine Tm_suc (fun k => by rw [x_simple]) ?_
    refine Tm_ob (p_want (M := M) (P := P) (w := E.2.2.2.1) hm (s := 7) (by decide) (by decide) rfl) (fun r6 hr6 => ?_)
    show Tm (fun k => x_simple k 19 N3 (mOpn r6.2 (r6.2.1 13 - 1))) _
    refine Tm_suc (fun k => by rw [x_simple]) ?_
    rcases gW_any hG with ⟨t6, rfl⟩ | ⟨t6, hG⟩
    · rcases hr6.2 with ⟨_, hB⟩ | ⟨y, _⟩
      · exact smN (Bb_opn hB _) (FrM_tr hFρ (FrM_tr hr6.1 (FrM_opn _))) (by omega) (by omega) (by omega)
      · exact absurd y t6
    rcases hr6.2 with ⟨y, _⟩ | ⟨_, hS6⟩
    · exact absurd t6 y
    rw [k3, hr21]
    refine Tm_ob (p_nd (M := M) (P := P) (w := E.2.2.2.1) (PS_clo hS6) (by omega) (by omega)) (fun r hr => ?_)
    exact sm25 hG hr.2.1 (FrM_tr hFρ (FrM_tr hr6.1 (FrM_tr (FrM_opn _) hr.2.2))) (by rw [upd_same]; exact hr.1) (by omega) (by omega) (by rw [bNode_1]; omega) (by rw [bNode_1]; omega)
theorem sm4 {f q1 v w K : Nat} {b : BT} {x : Fl RT} {σ σ1 : MS} {N : Nat → Int32} (hG : gSm0 T n f E o w q1 v b = some x) (hN1 : N 1 = nI w) (hw1 : 17 ≤ w) (hw2 : w ≤ 24) (hS1 : PS T n E o q1 v b σ1) (hF1 : FrM M P E.2.2.2.1 σ σ1) (h1 : 1 ≤ M) (hM : M ≤ b.1) (hP : P ≤ b.2.1) (hn : b.1 + (n + 1 - q1) + 967 ≤ 70000) (hp : b.2.1 + (n - q1) ≤ 70000) (hK : b.1 + (n + 1 - q1) + 964 ≤ K) : Tm (fun k => if (N 1) = 17 then (x_simple k 5 (upd N 2 0) σ1) else (if (N 1) = 18 then (x_simple k 5 (upd N 2 0) σ1) else (x_simple k 8 (upd N 2 0) σ1))) (Po T n E o M P K σ x) := by
  have hq1b := PS_q hS1
  have hv := PS_v hS1
  have hu1 := tkN_b T n q1 hq1b.1
  have isN : ∀ {s : Nat}, s < 2147483648 → (N 1 = nI s ↔ w = s) := fun hs => is_n hN1 (by omega) hs
  have hN' : upd N 2 0 1 = nI w := by rw [upd_other (by decide)]; exact hN1
  have isN' : ∀ {s : Nat}, s < 2147483648 → (upd N 2 0 1 = nI s ↔ w = s) := fun hs => is_n hN' (by omega) hs
  generalize upd N 2 0 = N' at hN' isN'
  unfold gSm0 at hG
  -- one node, then ;
  have fin : ∀ (a : Int32) (N2 : Nat → Int32), gS13 T n q1 v b.1 (bNode b a 0 0 0) = some x → Tm (fun k => ob (x_node k 0 (upd (upd (upd (upd (fun _ => 0) 1 a) 2 0) 3 0) 4 0) σ1) (fun r1 => x_simple k 25 (upd N2 2 r1.1) r1.2)) (Po T n E o M P K σ x) := fun a N2 hG => by
    refine Tm_ob (p_nd (M := M) (P := P) (w := E.2.2.2.1) hS1 (by omega) hM) (fun r hr => ?_)
    exact sm25 hG hr.2.1 (FrM_tr hF1 hr.2.2) (by rw [upd_same]; exact hr.1) hM (by omega) (by rw [bNode_1]; omega) (by rw [bNode_1]; omega)
  -- an exp, a node, then ;
  have fx : ∀ (f' : Nat) (a : Int32) (N2 : Nat → Int32) (g : Int32 → Nat → Int32), gb (G T n f 0 E o q1 v 0 0 0 0 b) (fun r => gS13 T n r.1 r.2.1 r.2.2.2.2.1.1 (bNode r.2.2.2.2.1 a (nI r.2.2.2.1) 0 0)) = some x → Tm (fun k => ob (x_exp k 0 (fun _ => 0) σ1) (fun r2 => ob (x_node k 0 (upd (upd (upd (upd (fun _ => 0) 1 a) 2 r2.1) 3 0) 4 0) r2.2) (fun r3 => x_simple k 25 (upd (g r2.1) 2 r3.1) r3.2))) (Po T n E o M P K σ x) := fun f' a N2 g hG => by
    rcases gb_any hG with ⟨yf, h7, hy⟩ | ⟨s, h7, hG⟩
    · subst hy
      refine Tm_ob (p_exp (M := M) (P := P) h7 hS1 h1 hM hP (by omega) (by omega)) (fun r2 hr2 => ?_)
      obtain ⟨⟨m1, hm, hmk, hMm⟩, _, hF2⟩ := hr2
      exact smN hm (FrM_tr hF1 hF2) (by omega) (by omega) hMm
    obtain ⟨⟨a1, a2, a3, a4, a5, a6, a7, a8⟩, a9⟩ := mo_of (M := M) hq1b.1 hv h7 hM h1 trivial (fun h => h) (fun h => h)
    refine Tm_ob (p_exp (M := M) (P := P) h7 hS1 h1 hM hP (by omega) (by omega)) (fun r2 hr2 => ?_)
    obtain ⟨hS2, hr21, hF2⟩ := hr2
    rw [hr21]
    refine Tm_ob (p_nd (M := M) (P := P) (w := E.2.2.2.1) hS2 (by omega) (by omega)) (fun r hr => ?_)
    exact sm25 hG hr.2.1 (FrM_tr hF1 (FrM_tr hF2 hr.2.2)) (by rw [upd_same]; exact hr.1) (by omega) (by omega) (by rw [bNode_1]; omega) (by rw [bNode_1]; omega)
  have last : ¬ w = 19 → ¬ w = 20 → ¬ w = 21 → gS13 T n q1 v b.1 (bNode b (nI (w + 32)) 0 0 0) = some x := fun z1 z2 z3 => by
    rw [if_neg z1, if_neg z2, if_neg z3] at hG; exact hG
  refine Tm_ite (fun z => ?_) (fun z17 => ?_)
  · have z := (isN (s := 17) (by decide)).mp z
    refine Tm_suc (fun k => by rw [x_simple]) ?_
    refine Tm_ite (fun _ => ?_) (fun y => absurd ((isN' (s := 17) (by decide)).mpr z) y)
    refine Tm_suc (fun k => by rw [x_simple]) ?_
    rw [upd_same]
    exact fin _ _ (by have := last (by omega) (by omega) (by omega); rw [z] at this; exact this)
  have z17 : ¬ w = 17 := fun y => z17 ((isN (s := 17) (by decide)).mpr y)
  refine Tm_ite (fun z => ?_) (fun z18 => ?_)
  · have z := (isN (s := 18) (by decide)).mp z
    refine Tm_suc (fun k => by rw [x_simple]) ?_
    refine Tm_ite (fun y => absurd ((isN' (s := 17) (by decide)).mp y) z17) (fun _ => ?_)
    refine Tm_suc (fun k => by rw [x_simple]) ?_
    refine Tm_suc (fun k => by rw [x_simple]) ?_
    rw [upd_same]
    exact fin _ _ (by have := last (by omega) (by omega) (by omega); rw [z] at this; exact this)
  have z18 : ¬ w = 18 := fun y => z18 ((isN (s := 18) (by decide)).mpr y)
  refine Tm_suc (fun k => by rw [x_simple]) ?_
  refine Tm_ite (fun z => ?_) (fun z19 => ?_)
  · have z := (isN' (s := 19) (by decide)).mp z
    rw [if_pos z] at hG
    refine Tm_ite (fun _ => ?_) (fun y => absurd (PS_ok hS1) y)
    refine Tm_ob (p_sign hS1 (s := 13) (by decide) (by decide) rfl) (fun r3 hr3 => ?_)
    obtain ⟨u, τ⟩ := r3
    obtain ⟨h3, hr3⟩ := hr3
    have h3 : τ = σ1 := h3
    subst h3
    refine Tm_ite (fun y => ?_) (fun y => ?_)
    · rw [if_neg (fun t => hr3.mpr t y)] at hG
      refine Tm_suc (fun k => by rw [x_simple]) ?_
      rcases gb_any hG with ⟨yf, h7, hy⟩ | ⟨s, h7, hG⟩
      · subst hy
        refine Tm_ob (p_exp (M := M) (P := P) h7 hS1 h1 hM hP (by omega) (by omega)) (fun r2 hr2 => ?_)
        obtain ⟨⟨m1, hm, hmk, hMm⟩, _, hF2⟩ := hr2
        refine Tm_suc (fun k => by rw [x_simple]) ?_
        exact smN hm (FrM_tr hF1 hF2) (by omega) (by omega) hMm
      obtain ⟨⟨a1, a2, a3, a4, a5, a6, a7, a8⟩, a9⟩ := mo_of (M := M) hq1b.1 hv h7 hM h1 trivial (fun h => h) (fun h => h)
      refine Tm_ob (p_exp (M := M) (P := P) h7 hS1 h1 hM hP (by omega) (by omega)) (fun r2 hr2 => ?_)
      obtain ⟨hS2, hr21, hF2⟩ := hr2
      refine Tm_suc (fun k => by rw [x_simple]) ?_
      rw [upd_same, hr21]
      refine Tm_ob (p_nd (M := M) (P := P) (w := E.2.2.2.1) hS2 (by omega) (by omega)) (fun r hr => ?_)
      exact sm25 hG hr.2.1 (FrM_tr hF1 (FrM_tr hF2 hr.2.2)) (by rw [upd_same]; exact hr.1) (by omega) (by omega) (by rw [bNode_1]; omega) (by rw [bNode_1]; omega)
    · rw [if_pos (hr3.mp y)] at hG
      refine Tm_suc (fun k => by rw [x_simple]) ?_
      refine Tm_suc (fun k => by rw [x_simple]) ?_
      rw [upd_same]
      refine Tm_ob (p_nd (M := M) (P := P) (w := E.2.2.2.1) hS1 (by omega) hM) (fun r hr => ?_)
      exact sm25 hG hr.2.1 (FrM_tr hF1 hr.2.2) (by rw [upd_same]; exact hr.1) hM (by omega) (by rw [bNode_1]; omega) (by rw [bNode_1]; omega)
  have z19 : ¬ w = 19 := fun y => z19 ((isN' (s := 19) (by decide)).mpr y)
  rw [if_neg z19] at hG
  refine Tm_suc (fun k => by rw [x_simple]) ?_
  refine Tm_ite (fun z => ?_) (fun z20 => ?_)
  · have z := (isN' (s := 20) (by decide)).mp z
    rw [if_pos z] at hG
    exact sm_print hG hS1 hF1 h1 hM hP (by omega) (by omega) (by omega)
  have z20 : ¬ w = 20 := fun y => z20 ((isN' (s := 20) (by decide)).mpr y)
  rw [if_neg z20] at hG
  refine Tm_suc (fun k => by rw [x_simple]) ?_
  refine Tm_ite (fun z => ?_) (fun z21 => ?_)
  · have z := (isN' (s := 21) (by decide)).mp z
    rw [if_pos z] at hG
    exact fx 0 53 N' (fun y => upd N' 3 y) hG
  have z21 : ¬ w = 21 := fun y => z21 ((isN' (s := 21) (by decide)).mpr y)
  refine Tm_suc (fun k => by rw [x_simple]) ?_
  refine Tm_ite (fun z => ?_) (fun z22 => ?_)
  · have z := (isN' (s := 22) (by decide)).mp z
    refine Tm_suc (fun k => by rw [x_simple]) ?_
    rw [upd_same]
    exact fin _ _ (by have := last (by omega) (by omega) (by omega); rw [z] at this; exact this)
  have z22 : ¬ w = 22 := fun y => z22 ((isN' (s := 22) (by decide)).mpr y)
  refine Tm_suc (fun k => by rw [x_simple]) ?_
  refine Tm_ite (fun z => ?_) (fun z23 => ?_)
  · have z := (isN' (s := 23) (by decide)).mp z
    refine Tm_suc (fun k => by rw [x_simple]) ?_
    rw [upd_same]
    exact fin _ _ (by have := last (by omega) (by omega) (by omega); rw [z] at this; exact this)
  have z23 : ¬ w = 23 := fun y => z23 ((isN' (s := 23) (by decide)).mpr y)
  refine Tm_suc (fun k => by rw [x_simple]) ?_
  refine Tm_suc (fun k => by rw [x_simple]) ?_
  rw [upd_same]
  have z24 : w = 24 := by omega
  exact fin _ _ (by have := last (by omega) (by omega) (by omega); rw [z24] at this; exact this)
theorem p_simple {f lp q v : Nat} {b : BT} {x : Fl RT} {σ : MS} {L : Nat → Int32} (hG : gSm T n f lp E o q v b = some x) (hK1 : 49 ≤ tkK T n q) (hK2 : tkK T n q ≤ 56) (hlp : σ.1 45 = 0 ↔ lp = 0) (hS : PS T n E o q v b σ) (h1 : 1 ≤ M) (hM : M ≤ b.1) (hP : P ≤ b.2.1) (hn : b.1 + (n + 1 - q) + 967 ≤ 70000) (hp : b.2.1 + (n - q) ≤ 70000) : Tm (fun k => x_simple k 0 L σ) (Po T n E o M P (b.1 + (n + 1 - q) + 964) σ x) := by
  have hq := PS_q hS
  have hv := PS_v hS
  have ho := PS_o hS
  have hu := tkN_b T n q hq.1
  have hu4 := hu.2.2.2 (by omega)
  have h37 : σ.1 37 = nI E.2.2.2.1 := hS.2.2.2.1.1
  have hw42 : E.2.2.2.1 ≤ 42 := hS.2.2.2.1.2.1
  have h7 : σ.1 7 = nI (tkK T n q - 32) := (cur_what (PS_cur hS)).2.1 (by omega)
  unfold gSm at hG
  generalize hwd : tkK T n q - 32 = w at hG h7
  have hw1 : 17 ≤ w := by omega
  have hw2 : w ≤ 24 := by omega
  have hN1 : upd L 1 (σ.1 7) 1 = nI w := by rw [upd_same]; exact h7
  generalize hNN : upd L 1 (σ.1 7) = N at hN1
  have isw : ∀ {s : Nat}, s < 2147483648 → (σ.1 7 = nI s ↔ w = s) := fun hs => is_n h7 (by omega) hs
  have isN : ∀ {s : Nat}, s < 2147483648 → (N 1 = nI s ↔ w = s) := fun hs => is_n hN1 (by omega) hs
  have flt : (((tkK T n q = 49 ∨ tkK T n q = 50) ∧ lp = 0) ∨ (tkK T n q = 51 ∧ (E.2.2.2.1 = 0 ∨ 41 < E.2.2.2.1))) → Tm (fun k => x_simple k 3 N σ) (Po T n E o M P (b.1 + (n + 1 - q) + 964) σ x) := fun hc => by
    rw [if_pos hc] at hG
    have hx := (Option.some.inj hG).symm
    subst hx
    refine Tm_suc (fun k => by rw [x_simple]) ?_
    refine Tm_ob (p_fault (M := M) (P := P) (w := E.2.2.2.1) (yf := (7, q)) hS _ (by rfl) (by exact PS_8 hS)) (fun r hr => ?_)
    exact Tm_some ⟨⟨_, hr.1, by omega, hM⟩, ⟨0, rfl, by decide, Or.inl rfl⟩, hr.2⟩
  have four : ¬ (((tkK T n q = 49 ∨ tkK T n q = 50) ∧ lp = 0) ∨ (tkK T n q = 51 ∧ (E.2.2.2.1 = 0 ∨ 41 < E.2.2.2.1))) → Tm (fun k => x_simple k 4 N σ) (Po T n E o M P (b.1 + (n + 1 - q) + 964) σ x) := fun hc => by
    rw [if_neg hc] at hG
    refine Tm_suc (fun k => by rw [x_simple]) ?_
    refine Tm_ob (p_take (M := M) (P := P) (w := E.2.2.2.1) hS _) (fun r1 hr1 => ?_)
    rcases gT_any hG with ⟨t1, rfl⟩ | ⟨t1, hG⟩
    · rcases hr1.2 with ⟨_, hB⟩ | ⟨z, _⟩
      · exact sm4b hB hr1.1 hN1 (by omega) (by omega) (by omega) hM
      · exact absurd t1 z
    rcases hr1.2 with ⟨z, _⟩ | ⟨_, hS1⟩
    · exact absurd z t1
    exact sm4 hG hN1 hw1 hw2 hS1 hr1.1 h1 hM hP (by omega) (by omega) (by omega)
  have two : ((w = 17 ∨ w = 18) → ¬ lp = 0) → Tm (fun k => x_simple k 2 N σ) (Po T n E o M P (b.1 + (n + 1 - q) + 964) σ x) := fun hlo => by
    refine Tm_suc (fun k => by rw [x_simple]) ?_
    refine Tm_ite (fun z => ?_) (fun z => ?_)
    · have z := (isN (s := 19) (by decide)).mp z
      rw [h37]
      refine Tm_ite (c := nI E.2.2.2.1 = 0) (fun y => flt (Or.inr ⟨by omega, Or.inl ((n_eq0 (by omega)).mp y)⟩)) (fun y => ?_)
      rw [n_eq0 (by omega)] at y
      have n41 : (41 : Int32) = nI 41 := rfl
      rw [n41]
      refine Tm_ite (fun t => ?_) (fun t => ?_)
      · rw [n_le (by omega) (by omega)] at t
        exact four (fun c => c.elim (fun c => hlo (c.1.imp (fun a => by omega) (fun a => by omega)) c.2) (fun c => c.2.elim y (fun a => absurd t (Nat.not_le.mpr a))))
      · rw [n_le (by omega) (by omega)] at t
        exact flt (Or.inr ⟨by omega, Or.inr (Nat.not_le.mp t)⟩)
    · have z : ¬ w = 19 := fun y => z ((isN (s := 19) (by decide)).mpr y)
      exact four (fun c => c.elim (fun c => hlo (c.1.imp (fun a => by omega) (fun a => by omega)) c.2) (fun c => z (by omega)))
  have one : (w = 17 ∨ w = 18) → Tm (fun k => x_simple k 1 N σ) (Po T n E o M P (b.1 + (n + 1 - q) + 964) σ x) := fun hlo => by
    refine Tm_suc (fun k => by rw [x_simple]) ?_
    refine Tm_ite (fun z => flt (Or.inl ⟨hlo.imp (fun a => by omega) (fun a => by omega), hlp.mp z⟩)) (fun z => two (fun _ y => z (hlp.mpr y)))
  refine Tm_suc (fun k => by rw [x_simple]) ?_
  rw [hNN]
  refine Tm_ite (fun z => one (Or.inl ((isw (s := 17) (by decide)).mp z))) (fun z => ?_)
  refine Tm_ite (fun z => one (Or.inr ((isw (s := 18) (by decide)).mp z))) (fun z2 => ?_)
  refine two (fun y => ?_)
  rcases y with y | y
  · exact absurd ((isw (s := 17) (by decide)).mpr y) z
  · exact absurd ((isw (s := 18) (by decide)).mpr y) z2
end SIM
end JnS57
