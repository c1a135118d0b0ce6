/-! Which nodes are targets: a variable, parts over it. -/
abbrev isPt (x : Int32) : Prop := x = 21 ∨ x = 22 ∨ x = 23
def ChB (m : Nat) (t4 t6 : Nat → Int32) : Nat → Nat → Int32 → Prop
  | 0, _, _ => False
  | k + 1, e, x => e < m ∧ 1 ≤ e ∧ ((isPt (t4 e) ∧ ∃ l : Nat, t6 e = nI l ∧ ChB m t4 t6 k l x) ∨ (¬ isPt (t4 e) ∧ t4 e = x))
def Ch (b : BT) (e : Nat) (x : Int32) : Prop := ∃ k, ChB b.1 (b.2.2.1 4) (b.2.2.1 6) k e x
theorem ChB_k {m m' : Nat} {t4 t6 s4 s6 : Nat → Int32} (hm : m ≤ m') (h4 : ∀ h, h < m → s4 h = t4 h) (h6 : ∀ h, h < m → s6 h = t6 h) : ∀ (k e : Nat) (x : Int32), ChB m t4 t6 k e x → ChB m' s4 s6 k e x
  | 0, _, _, h => h
  | k + 1, e, x, ⟨h1, h2, h3⟩ => by
    refine ⟨by omega, h2, ?_⟩
    rw [h4 e h1, h6 e h1]
    rcases h3 with ⟨a, l, b, c⟩ | h3
    · exact Or.inl ⟨a, l, b, ChB_k hm h4 h6 k l x c⟩
    · exact Or.inr h3
theorem Ch_k {b b' : BT} (hm : b.1 ≤ b'.1) (h4 : ∀ h, h < b.1 → b'.2.2.1 4 h = b.2.2.1 4 h) (h6 : ∀ h, h < b.1 → b'.2.2.1 6 h = b.2.2.1 6 h) {e : Nat} {x : Int32} (h : Ch b e x) : Ch b' e x := by
  obtain ⟨k, h⟩ := h
  exact ⟨k, ChB_k hm h4 h6 k e x h⟩
theorem Ch_new {b : BT} {e : Nat} {x : Int32} (h1 : e < b.1) (h2 : 1 ≤ e) (h4 : b.2.2.1 4 e = x) (hx : ¬ isPt x) : Ch b e x := ⟨1, h1, h2, Or.inr ⟨by rw [h4]; exact hx, h4⟩⟩
theorem Ch_over {b : BT} {e l : Nat} {x : Int32} (h1 : e < b.1) (h2 : 1 ≤ e) (h4 : isPt (b.2.2.1 4 e)) (h6 : b.2.2.1 6 e = nI l) (h : Ch b l x) : Ch b e x := by
  obtain ⟨k, h⟩ := h
  exact ⟨k + 1, h1, h2, Or.inl ⟨h4, l, h6, h⟩⟩
/-- what the info of an operand says of its node -/
def Inf (b : BT) (e i : Nat) : Prop := (i = 1 ↔ b.2.2.1 4 e = 7) ∧ (¬ i = 0 → Ch b e 7) ∧ (i = 0 → ∃ x, ¬ x = 7 ∧ Ch b e x)
theorem Inf_k {b b' : BT} (hm : b.1 ≤ b'.1) (h4 : ∀ h, h < b.1 → b'.2.2.1 4 h = b.2.2.1 4 h) (h6 : ∀ h, h < b.1 → b'.2.2.1 6 h = b.2.2.1 6 h) {e i : Nat} (he : e < b.1) (h : Inf b e i) : Inf b' e i := by
  obtain ⟨a, c, d⟩ := h
  refine ⟨by rw [h4 e he]; exact a, fun z => Ch_k hm h4 h6 (c z), fun z => ?_⟩
  obtain ⟨x, x1, x2⟩ := d z
  exact ⟨x, x1, Ch_k hm h4 h6 x2⟩
theorem Inf_0 {b : BT} {e : Nat} {x : Int32} (h1 : e < b.1) (h2 : 1 ≤ e) (h4 : b.2.2.1 4 e = x) (hx : ¬ (x = 7 ∨ x = 21 ∨ x = 22 ∨ x = 23)) : Inf b e 0 :=
  ⟨⟨fun z => absurd z (by decide), fun z => absurd (Or.inl (h4.symm.trans z)) hx⟩, fun z => absurd rfl z, fun _ => ⟨x, fun z => hx (Or.inl z), Ch_new h1 h2 h4 (fun z => hx (Or.inr z))⟩⟩
section INF
variable {b : BT} {k x y z u : Int32} {l e i : Nat}
theorem bNode_4 : (bNode b k x y z).2.2.1 4 b.1 = k := (upd_same : upd (b.2.2.1 4) b.1 k b.1 = k)
theorem bNode_6 : (bNode b k x y z).2.2.1 6 b.1 = y := (upd_same : upd (b.2.2.1 6) b.1 y b.1 = y)
theorem bOver_4 : (bOver b k x l z).2.2.1 4 b.1 = k := by unfold bOver; rw [bSet_k (by decide) (Or.inr rfl)]; exact bNode_4
theorem bOver_6 : (bOver b k x l z).2.2.1 6 b.1 = nI l := by unfold bOver; rw [bSet_k (by decide) (Or.inr rfl)]; exact bNode_6
theorem bWrap_4 : (bWrap b k x y z u).2.2.1 4 b.1 = k := by unfold bWrap; rw [bSet_k (by decide) (Or.inl rfl)]; exact bNode_4
theorem inf_node (h1 : 1 ≤ b.1) (hx : ¬ (k = 7 ∨ k = 21 ∨ k = 22 ∨ k = 23)) : Inf (bNode b k x y z) b.1 0 := Inf_0 (by rw [bNode_1]; omega) h1 bNode_4 hx
theorem inf_over (h1 : 1 ≤ b.1) (hx : ¬ (k = 7 ∨ k = 21 ∨ k = 22 ∨ k = 23)) : Inf (bOver b k x l z) b.1 0 := Inf_0 (by rw [bOver_1]; omega) h1 bOver_4 hx
theorem inf_wrap (h1 : 1 ≤ b.1) (hx : ¬ (k = 7 ∨ k = 21 ∨ k = 22 ∨ k = 23)) : Inf (bWrap b k x y z u) b.1 0 := Inf_0 (by rw [bWrap_1]; omega) h1 bWrap_4 hx
theorem inf_var (h1 : 1 ≤ b.1) : Inf (bNode b 7 x y z) b.1 1 := ⟨⟨fun _ => bNode_4, fun _ => rfl⟩, fun _ => Ch_new (by rw [bNode_1]; omega) h1 bNode_4 (by decide), fun z => absurd z (by decide)⟩
/-- a part over it -/
theorem inf_part {b0 : BT} (h1 : 1 ≤ b.1) (hk : isPt k) (hm : b0.1 ≤ b.1) (h4 : ∀ h, h < b0.1 → b.2.2.1 4 h = b0.2.2.1 4 h) (h6 : ∀ h, h < b0.1 → b.2.2.1 6 h = b0.2.2.1 6 h) (he : e < b0.1) (h : Inf b0 e i) : Inf (bOver b k x e z) b.1 (if i = 0 then 0 else 2) := by
  have h' : Inf (bOver b k x e z) e i := Inf_k (by rw [bOver_1]; omega) (fun j hj => by rw [bOver_k (by decide) (by omega)]; exact h4 j hj) (fun j hj => by rw [bOver_k (by decide) (by omega)]; exact h6 j hj) he h
  have hp : isPt ((bOver b k x e z).2.2.1 4 b.1) := by rw [bOver_4]; exact hk
  have n7 : ¬ (bOver b k x e z).2.2.1 4 b.1 = 7 := by
    rw [bOver_4]
    rcases hk with rfl | rfl | rfl <;> decide
  refine ⟨⟨fun y => ?_, fun y => absurd y n7⟩, fun y => ?_, fun y => ?_⟩
  · by_cases c : i = 0
    · rw [if_pos c] at y; exact absurd y (by decide)
    · rw [if_neg c] at y; exact absurd y (by decide)
  · have c : ¬ i = 0 := fun c => y (if_pos c)
    exact Ch_over (by rw [bOver_1]; omega) h1 hp bOver_6 (h'.2.1 c)
  · have c : i = 0 := by
      by_cases c : i = 0
      · exact c
      · rw [if_neg c] at y; exact absurd y (by decide)
    obtain ⟨w, w1, w2⟩ := h'.2.2 c
    exact ⟨w, w1, Ch_over (by rw [bOver_1]; omega) h1 hp bOver_6 w2⟩
theorem inf_set {j : Nat} {w : Int32} (hj : j = 8 ∨ j = 9) (he : e < b.1) (h : Inf b e i) : Inf (bSet b j l w) e i :=
  Inf_k (by rw [bSet_1]; exact Nat.le_refl _) (fun h hh => bSet_k (by decide) hj) (fun h hh => bSet_k (by decide) hj) he h
end INF
/-- nonterminals with an operand's node; of loops: the one they begin with -/
abbrev GI (T : Nat → Int32) (n f : Nat) : Prop := ∀ (nt : Nat) (E : En) (o q v i e c g : Nat) (b : BT) (r : RT), (nt ≤ 13 ∨ nt = 15) → q ≤ n → v ≤ 60 → 1 ≤ b.1 → G T n f nt E o q v i e c g b = some (some r) → Nd0 nt 1 b i e c → (isLp nt → Inf b e i) → Inf r.2.2.2.2.1 r.2.2.2.1 r.2.2.1
section GINF
variable {T : Nat → Int32} {n f : Nat}
theorem gk4 {nt : Nat} {E : En} {o q v i e c g : Nat} {b : BT} {r : RT} (hq : q ≤ n) (hv : v ≤ 60) (hb : 1 ≤ b.1) (hG : G T n f nt E o q v i e c g b = some (some r)) (hN : Nd0 nt 1 b i e c) : (∀ h, h < b.1 → r.2.2.2.2.1.2.2.1 4 h = b.2.2.1 4 h) ∧ (∀ h, h < b.1 → r.2.2.2.2.1.2.2.1 6 h = b.2.2.1 6 h) :=
  ⟨g_keep T n (by decide) f nt E o q v i e c g b r hq hv hb hG hN, g_keep T n (by decide) f nt E o q v i e c g b r hq hv hb hG hN⟩
theorem gi_head (ih : GI T n f) {nt lp : Nat} {E : En} {o q v : Nat} {b : BT} {r : RT} (hnt : nt ≤ 13) (hlp : lp ≤ 13) (hq : q ≤ n) (hv : v ≤ 60) (hb : 1 ≤ b.1) (h0 : Nd0 nt 1 b 0 0 0) (hn : ¬ isLp nt) (hnd : ∀ s : RT, Nd1 nt 1 s → 1 ≤ s.2.2.2.1 ∧ s.2.2.2.1 < s.2.2.2.2.1.1) (hmo : ∀ s : RT, MoN nt n b q v s → Mo n b q v s) (hlp2 : ∀ (b : BT) (i e : Nat), 1 ≤ e ∧ e < b.1 → Nd0 lp 1 b i e 0)
    (hG : gb (G T n f nt E o q v 0 0 0 0 b) (fun r => G T n f lp E o r.1 r.2.1 r.2.2.1 r.2.2.2.1 0 0 r.2.2.2.2.1) = some (some r)) : Inf r.2.2.2.2.1 r.2.2.2.1 r.2.2.1 := by
  obtain ⟨s, h1, hG⟩ := gb_s hG
  obtain ⟨x1, x2⟩ := g_mono T n f nt E o q v 0 0 0 0 b s hq hv h1 1 hb (by decide) h0
  obtain ⟨a1, a2, a3, a4, a5, a6, a7, a8⟩ := hmo s x1
  have x2 := hnd s x2
  exact ih lp _ _ _ _ _ _ _ _ _ _ (Or.inl hlp) a2 (by omega) (by omega) hG (hlp2 _ _ _ x2) (fun _ => ih nt _ _ _ _ _ _ _ _ _ _ (Or.inl hnt) hq hv hb h1 h0 (fun z => absurd z hn))
theorem gi_loop (ih : GI T n f) {nt lp : Nat} {E : En} {o q v e : Nat} {b : BT} {r : RT} {kd op : Int32} (hlp : lp ≤ 13) (hq : q ≤ n) (hv : v ≤ 60) (hb : 1 ≤ b.1) (h0 : Nd0 nt 1 b 0 0 0) (hnd : ∀ s : RT, Nd1 nt 1 s → 1 ≤ s.2.2.2.1 ∧ s.2.2.2.1 < s.2.2.2.2.1.1) (hmo : ∀ (q : Nat) (s : RT), MoN nt n b q v s → Mo n b q v s) (hlp2 : ∀ (b : BT) (i e : Nat), 1 ≤ e ∧ e < b.1 → Nd0 lp 1 b i e 0) (hk : ¬ (kd = 7 ∨ kd = 21 ∨ kd = 22 ∨ kd = 23))
    (hG : gT T n q (fun q1 => gb (G T n f nt E o q1 v 0 0 0 0 b) (fun r => G T n f lp E o r.1 r.2.1 0 r.2.2.2.2.1.1 0 0 (bOver r.2.2.2.2.1 kd op e (nI r.2.2.2.1)))) = some (some r)) : Inf r.2.2.2.2.1 r.2.2.2.1 r.2.2.1 := by
  obtain ⟨t, hG⟩ := gT_s hG
  have hu := tkN_b T n q hq
  obtain ⟨s, h1, hG⟩ := gb_s hG
  obtain ⟨x1, x2⟩ := g_mono T n f nt E o _ v 0 0 0 0 b s hu.2.1 hv h1 1 hb (by decide) h0
  obtain ⟨a1, a2, a3, a4, a5, a6, a7, a8⟩ := hmo _ s x1
  exact ih lp _ _ _ _ _ _ _ _ _ _ (Or.inl hlp) a2 (by omega) (by rw [bOver_1]; omega) hG (hlp2 _ _ _ ⟨by omega, by rw [bOver_1]; omega⟩) (fun _ => inf_over (by omega) hk)
theorem g15_i : ∀ {f : Nat} {E : En} {o q v i e c g : Nat} {b : BT} {r : RT}, G T n f 15 E o q v i e c g b = some (some r) → r.2.2.1 = 0
  | 0, _, _, _, _, _, _, _, _, _, _, hG => by simp only [G] at hG; cases hG
  | f + 1, E, o, q, v, i, e, c, g, b, r, hG => by
    rw [G_15] at hG
    by_cases k : tkK T n q = 12
    · rw [if_pos k] at hG
      obtain ⟨_, hG⟩ := gT_s hG
      obtain ⟨s, h1, hG⟩ := gb_s hG
      try dsimp only at hG
      by_cases c1 : c = 1 ∧ tkK T n s.1 = 16
      · rw [if_pos c1] at hG
        obtain ⟨_, hG⟩ := gT_s hG
        obtain ⟨s2, h2, hG⟩ := gb_s hG
        cases hG
        rfl
      · rw [if_neg c1] at hG
        exact g15_i hG
    · rw [if_neg k] at hG
      cases hG
      rfl
theorem gi_13 (ih : GI T n f) {E : En} {o q v i e c g : Nat} {b : BT} {r : RT} (hq : q ≤ n) (hv : v ≤ 60) (hb : 1 ≤ b.1) (hG : G T n (f + 1) 13 E o q v i e c g b = some (some r)) : Inf r.2.2.2.2.1 r.2.2.2.1 r.2.2.1 := by
  have hu := tkN_b T n q hq
  have B : ∀ {nt : Nat} {E : En} {o q v : Nat} {b : BT} {s : RT}, q ≤ n → v ≤ 60 → 1 ≤ b.1 → G T n f nt E o q v 0 0 0 0 b = some (some s) → Nd0 nt 1 b 0 0 0 → (MoN nt n b q v s → Mo n b q v s) → s.1 ≤ n ∧ s.2.1 ≤ 60 ∧ 1 ≤ s.2.2.2.2.1.1 := fun hq hv hb h h0 hmo => by
    obtain ⟨x1, _⟩ := g_mono T n f _ _ _ _ _ _ _ _ _ _ _ hq hv h 1 hb (by decide) h0
    obtain ⟨a1, a2, a3, a4, a5, _⟩ := hmo x1
    exact ⟨a2, by omega, by omega⟩
  rw [G_13] at hG
  by_cases k1 : tkK T n q = 27
  · rw [if_pos k1] at hG
    obtain ⟨_, hG⟩ := gT_s hG
    cases hG
    exact inf_node (b := bKeep b T q (tkE T n q - q)) hb (by decide)
  rw [if_neg k1] at hG
  by_cases k2 : tkK T n q = 28
  · rw [if_pos k2] at hG
    obtain ⟨_, hG⟩ := gT_s hG
    cases hG
    exact inf_node (b := bKeep b T (q + 1) (tkE T n q - 2 - q)) hb (by decide)
  rw [if_neg k2] at hG
  by_cases k3 : tkK T n q = 26
  · rw [if_pos k3] at hG
    obtain ⟨_, hG⟩ := gT_s hG
    try dsimp only at hG
    by_cases c1 : (fd E (tkS T n q)).1 = 1
    · rw [if_pos c1] at hG
      cases hG
      exact inf_var hb
    rw [if_neg c1] at hG
    by_cases c2 : (fd E (tkS T n q)).1 = 2 ∧ tkK T n (tkN T n q) = 6
    · rw [if_pos c2] at hG
      obtain ⟨_, hG⟩ := gO_s hG
      obtain ⟨_, hG⟩ := gT_s hG
      obtain ⟨s, h1, hG⟩ := gb_s hG
      have hw := tkN_b T n (tkN T n q) hu.2.1
      have hs := B hw.2.1 hv hb h1 (Or.inl rfl) (fun h => h)
      try dsimp only at hG
      by_cases c3 : tkK T n s.1 = 7 ∧ s.2.2.1 = E.2.2.2.2.2.2 (fd E (tkS T n q)).2.1
      · rw [if_pos c3] at hG
        obtain ⟨_, hG⟩ := gT_s hG
        cases hG
        exact inf_wrap hs.2.2 (by decide)
      · rw [if_neg c3] at hG; cases hG
    · rw [if_neg c2] at hG; cases hG
  rw [if_neg k3] at hG
  by_cases k4 : tkK T n q = 6
  · rw [if_pos k4] at hG
    obtain ⟨_, hG⟩ := gO_s hG
    obtain ⟨_, hG⟩ := gT_s hG
    obtain ⟨s, h1, hG⟩ := gb_s hG
    have hs := B hu.2.1 hv hb h1 trivial (fun h => h)
    obtain ⟨_, _, hG⟩ := gW_s hG
    cases hG
    exact inf_over hs.2.2 (by decide)
  rw [if_neg k4] at hG
  by_cases k5 : tkK T n q = 8 ∨ tkK T n q = 10
  · rw [if_pos k5] at hG
    obtain ⟨_, hG⟩ := gO_s hG
    obtain ⟨_, hG⟩ := gT_s hG
    try dsimp only at hG
    have hw := tkN_b T n (tkN T n q) hu.2.1
    by_cases c1 : tkK T n (tkN T n q) = tkK T n q + 1
    · rw [if_pos c1] at hG
      obtain ⟨_, hG⟩ := gT_s hG
      cases hG
      exact inf_node hb (by split <;> decide)
    rw [if_neg c1] at hG
    by_cases c2 : tkK T n (tkN T n q) = 45
    · rw [if_pos c2] at hG
      obtain ⟨_, hG⟩ := gT_s hG
      obtain ⟨s, h1, hG⟩ := gb_s hG
      obtain ⟨x1, _⟩ := g_mono T n f _ _ _ _ _ _ _ _ _ _ s hw.2.1 hv h1 1 hb (by decide) (Or.inl rfl)
      obtain ⟨a1, a2, a3, a4, a5, _⟩ := (x1 : Mo n _ _ _ s)
      try dsimp only at hG
      by_cases c3 : tkK T n s.1 = 15
      · rw [if_pos c3] at hG
        obtain ⟨_, hG⟩ := gT_s hG
        obtain ⟨s2, h2, hG⟩ := gb_s hG
        have hs2 := B (tkN_b T n s.1 a2).2.1 (by omega) (by omega) h2 trivial (fun h => h)
        obtain ⟨_, _, hG⟩ := gW_s hG
        obtain ⟨s3, h3, hG⟩ := gb_s hG
        have hs3 := B (tkN_b T n s2.1 hs2.1).2.1 hs2.2.1 hs2.2.2 h3 trivial (fun h => h)
        obtain ⟨_, _, hG⟩ := gW_s hG
        cases hG
        exact inf_wrap hs3.2.2 (by decide)
      · rw [if_neg c3] at hG
        obtain ⟨_, _, hG⟩ := gW_s hG
        obtain ⟨s3, h3, hG⟩ := gb_s hG
        have hs3 := B (tkN_b T n s.1 a2).2.1 (by omega) (by omega) h3 trivial (fun h => h)
        obtain ⟨_, _, hG⟩ := gW_s hG
        cases hG
        exact inf_wrap hs3.2.2 (by decide)
    rw [if_neg c2] at hG
    obtain ⟨s, h1, hG⟩ := gb_s hG
    obtain ⟨⟨a1, a2, a3, a4, a5, a6, a7, a8⟩, a9⟩ := mo_of (M := 1) hu.2.1 hv h1 hb (by decide) trivial (fun h => h) (fun h => h)
    try dsimp only at hG
    by_cases c3 : tkK T n s.1 = 16
    · rw [if_pos c3] at hG
      obtain ⟨_, hG⟩ := gT_s hG
      obtain ⟨s2, h2, hG⟩ := gb_s hG
      have hs2 := B (tkN_b T n s.1 a2).2.1 (by omega) (by omega) h2 trivial (fun h => h)
      obtain ⟨_, _, hG⟩ := gW_s hG
      cases hG
      exact inf_wrap hs2.2.2 (by decide)
    · rw [if_neg c3] at hG
      obtain ⟨s2, h2, hG⟩ := gb_s hG
      obtain ⟨_, _, hG⟩ := gW_s hG
      have hi := ih 15 _ _ _ _ _ _ _ _ _ _ (Or.inr rfl) a2 (by omega) (by omega) h2 (⟨a9.1, a9.2, a9.1, a9.2⟩ : 1 ≤ _ ∧ _ < _ ∧ 1 ≤ _ ∧ _ < _) (fun z => absurd z (by decide))
      have hz : s2.2.2.1 = 0 := g15_i h2
      rw [hz] at hi
      cases hG
      exact hi
  rw [if_neg k5] at hG
  by_cases k6 : tkK T n q = 60 ∨ tkK T n q = 61 ∨ tkK T n q = 62
  · rw [if_pos k6] at hG
    obtain ⟨_, hG⟩ := gT_s hG
    cases hG
    refine inf_node hb ?_
    split
    · decide
    · split <;> decide
  rw [if_neg k6] at hG
  by_cases k7 : tkK T n q = 69 ∨ tkK T n q = 70
  · rw [if_pos k7] at hG
    obtain ⟨_, hG⟩ := gO_s hG
    obtain ⟨_, hG⟩ := gT_s hG
    obtain ⟨s, h1, hG⟩ := gb_s hG
    obtain ⟨x1, _⟩ := g_mono T n f _ _ _ _ _ _ _ _ _ _ s hu.2.1 hv h1 1 hb (by decide) (Or.inl rfl)
    obtain ⟨a1, a2, a3, a4, a5, _⟩ := (x1 : Mo n _ _ _ s)
    obtain ⟨_, _, hG⟩ := gW_s hG
    obtain ⟨s2, h2, hG⟩ := gb_s hG
    have hs2 := B (tkN_b T n s.1 a2).2.1 (by omega) (by omega) h2 trivial (fun h => h)
    cases hG
    exact inf_node hs2.2.2 (by decide)
  rw [if_neg k7] at hG
  by_cases k8 : tkK T n q = 39
  · rw [if_pos k8] at hG
    obtain ⟨_, hG⟩ := gO_s hG
    obtain ⟨_, hG⟩ := gT_s hG
    obtain ⟨s, h1, hG⟩ := gb_s hG
    have hs := B hu.2.1 hv hb h1 trivial (fun h => h)
    obtain ⟨_, _, hG⟩ := gW_s hG
    obtain ⟨s2, h2, hG⟩ := gb_s hG
    have hs2 := B (tkN_b T n s.1 hs.1).2.1 hs.2.1 hs.2.2 h2 trivial (fun h => h)
    obtain ⟨s3, h3, hG⟩ := gb_s hG
    obtain ⟨x1, _⟩ := g_mono T n f _ _ _ _ _ _ _ _ _ _ s3 hs2.1 hs2.2.1 h3 1 (by rw [bNode_1]; omega) (by decide) (⟨hs2.2.2, by rw [bNode_1]; omega⟩ : 1 ≤ _ ∧ _ < _)
    obtain ⟨a1, a2, a3, a4, a5, _⟩ := (x1 : Mo n _ _ _ s3)
    rw [bNode_1] at a5
    obtain ⟨_, _, hG⟩ := gW_s hG
    obtain ⟨s4, h4, hG⟩ := gb_s hG
    have hs4 := B (tkN_b T n s3.1 a2).2.1 (by omega) (by omega) h4 trivial (fun h => h)
    obtain ⟨_, _, hG⟩ := gW_s hG
    cases hG
    exact inf_node (b := bSet (bNode s4.2.2.2.2.1 33 (-1) (nI s4.2.2.2.1) 0) 9 s3.2.2.2.1 (nI s4.2.2.2.2.1.1)) (by rw [bSet_1, bNode_1]; omega) (by decide)
  rw [if_neg k8] at hG
  by_cases k9 : tkK T n q = 83 ∧ E.2.2.2.2.1 = true
  · rw [if_pos k9] at hG
    obtain ⟨_, hG⟩ := gT_s hG
    cases hG
    exact inf_node hb (by decide)
  rw [if_neg k9] at hG
  by_cases k10 : isFn (tkK T n q) E.2.2.2.2.2.1
  · rw [if_pos k10] at hG
    obtain ⟨_, hG⟩ := gT_s hG
    try dsimp only at hG
    by_cases c1 : tkK T n (tkN T n q) = 6
    · rw [if_pos c1] at hG
      obtain ⟨_, hG⟩ := gO_s hG
      obtain ⟨_, hG⟩ := gT_s hG
      obtain ⟨s, h1, hG⟩ := gb_s hG
      have hs := B (tkN_b T n (tkN T n q) hu.2.1).2.1 hv hb h1 trivial (fun h => h)
      obtain ⟨_, _, hG⟩ := gW_s hG
      cases hG
      exact inf_node hs.2.2 (by decide)
    · rw [if_neg c1] at hG; cases hG
  · rw [if_neg k10] at hG; cases hG
theorem g_info (T : Nat → Int32) (n : Nat) : ∀ f : Nat, GI T n f
  | 0 => fun nt E o q v i e c g b r _ _ _ _ hG => by simp only [G] at hG; cases hG
  | f + 1 => fun nt E o q v i e c g b r hnt hq hv hb hG hN hI => by
    have ih := g_info T n f
    have hu := tkN_b T n q hq
    match nt, hnt, hG, hN, hI with
    | 0, _, hG, _, _ => rw [G_0] at hG; exact gi_head (nt := 2) (lp := 1) ih (by decide) (by decide) hq hv hb trivial (by decide) (fun _ h => h) (fun _ h => h) (fun _ _ _ h => h) hG
    | 1, _, hG, hN, hI =>
      rw [G_1] at hG
      by_cases c1 : tkK T n q = 65
      · rw [if_pos c1] at hG; exact gi_loop (nt := 2) (lp := 1) ih (by decide) hq hv hb trivial (fun _ h => h) (fun _ _ h => h) (fun _ _ _ h => h) (by decide) hG
      · rw [if_neg c1] at hG; cases hG; exact hI (by decide)
    | 2, _, hG, _, _ => rw [G_2] at hG; exact gi_head (nt := 4) (lp := 3) ih (by decide) (by decide) hq hv hb trivial (by decide) (fun _ h => h) (fun _ h => h) (fun _ _ _ h => h) hG
    | 3, _, hG, hN, hI =>
      rw [G_3] at hG
      by_cases c1 : tkK T n q = 64
      · rw [if_pos c1] at hG; exact gi_loop (nt := 4) (lp := 3) ih (by decide) hq hv hb trivial (fun _ h => h) (fun _ _ h => h) (fun _ _ _ h => h) (by decide) hG
      · rw [if_neg c1] at hG; cases hG; exact hI (by decide)
    | 4, _, hG, _, _ =>
      rw [G_4] at hG
      by_cases c1 : tkK T n q = 66
      · rw [if_pos c1] at hG
        obtain ⟨_, hG⟩ := gO_s hG
        obtain ⟨_, hG⟩ := gT_s hG
        obtain ⟨s, h1, hG⟩ := gb_s hG
        obtain ⟨⟨a1, a2, a3, a4, a5, _⟩, _⟩ := mo_of (M := 1) hu.2.1 hv h1 hb (by decide) trivial (fun h => h) (fun h => h)
        cases hG
        exact inf_node (by omega) (by decide)
      · rw [if_neg c1] at hG
        exact ih 5 _ _ _ _ _ _ _ _ _ _ (by decide) hq hv hb hG trivial (fun z => absurd z (by decide))
    | 5, _, hG, _, _ =>
      rw [G_5] at hG
      obtain ⟨s, h1, hG⟩ := gb_s hG
      obtain ⟨⟨a1, a2, a3, a4, a5, _⟩, _⟩ := mo_of (M := 1) hq hv h1 hb (by decide) trivial (fun h => h) (fun h => h)
      try dsimp only at hG
      by_cases c1 : isRl (tkK T n s.1)
      · rw [if_pos c1] at hG
        obtain ⟨_, hG⟩ := gT_s hG
        obtain ⟨s2, h2, hG⟩ := gb_s hG
        obtain ⟨⟨f1, f2, f3, f4, f5, _⟩, _⟩ := mo_of (M := 1) (tkN_b T n s.1 a2).2.1 (by omega) h2 (by omega) (by decide) trivial (fun h => h) (fun h => h)
        cases hG
        exact inf_over (by omega) (by decide)
      · rw [if_neg c1] at hG
        cases hG
        exact ih 6 _ _ _ _ _ _ _ _ _ s (by decide) hq hv hb h1 trivial (fun z => absurd z (by decide))
    | 6, _, hG, _, _ => rw [G_6] at hG; exact gi_head (nt := 8) (lp := 7) ih (by decide) (by decide) hq hv hb trivial (by decide) (fun _ h => h) (fun _ h => h) (fun _ _ _ h => h) hG
    | 7, _, hG, hN, hI =>
      rw [G_7] at hG
      by_cases c1 : tkK T n q = 2 ∨ tkK T n q = 3
      · rw [if_pos c1] at hG; exact gi_loop (nt := 8) (lp := 7) ih (by decide) hq hv hb trivial (fun _ h => h) (fun _ _ h => h) (fun _ _ _ h => h) (by decide) hG
      · rw [if_neg c1] at hG; cases hG; exact hI (by decide)
    | 8, _, hG, _, _ => rw [G_8] at hG; exact gi_head (nt := 10) (lp := 9) ih (by decide) (by decide) hq hv hb trivial (by decide) (fun _ h => h) (fun _ h => h) (fun _ _ _ h => h) hG
    | 9, _, hG, hN, hI =>
      rw [G_9] at hG
      by_cases c1 : tkK T n q = 4 ∨ tkK T n q = 67 ∨ tkK T n q = 68
      · rw [if_pos c1] at hG; exact gi_loop (nt := 10) (lp := 9) ih (by decide) hq hv hb trivial (fun _ h => h) (fun _ _ h => h) (fun _ _ _ h => h) (by decide) hG
      · rw [if_neg c1] at hG; cases hG; exact hI (by decide)
    | 10, _, hG, _, _ =>
      rw [G_10] at hG
      obtain ⟨s, h1, hG⟩ := gb_s hG
      obtain ⟨⟨a1, a2, a3, a4, a5, _⟩, _⟩ := mo_of (M := 1) hq hv h1 hb (by decide) trivial (fun h => h) (fun h => h)
      try dsimp only at hG
      by_cases c1 : tkK T n s.1 = 5
      · rw [if_pos c1] at hG
        obtain ⟨_, hG⟩ := gO_s hG
        obtain ⟨_, hG⟩ := gT_s hG
        obtain ⟨s2, h2, hG⟩ := gb_s hG
        obtain ⟨⟨f1, f2, f3, f4, f5, _⟩, _⟩ := mo_of (M := 1) (tkN_b T n s.1 a2).2.1 (by omega) h2 (by omega) (by decide) trivial (fun h => h) (fun h => h)
        cases hG
        exact inf_over (by omega) (by decide)
      · rw [if_neg c1] at hG
        cases hG
        exact ih 11 _ _ _ _ _ _ _ _ _ s (by decide) hq hv hb h1 trivial (fun z => absurd z (by decide))
    | 11, _, hG, _, _ =>
      rw [G_11] at hG
      by_cases c1 : tkK T n q = 3 ∨ tkK T n q = 23
      · rw [if_pos c1] at hG
        obtain ⟨_, hG⟩ := gO_s hG
        obtain ⟨_, hG⟩ := gT_s hG
        obtain ⟨s, h1, hG⟩ := gb_s hG
        obtain ⟨⟨a1, a2, a3, a4, a5, _⟩, _⟩ := mo_of (M := 1) hu.2.1 hv h1 hb (by decide) trivial (fun h => h) (fun h => h)
        cases hG
        exact inf_node (by omega) (by split <;> decide)
      rw [if_neg c1] at hG
      by_cases c2 : tkK T n q = 2 ∨ tkK T n q = 4 ∨ tkK T n q = 81 ∨ tkK T n q = 80
      · rw [if_pos c2] at hG
        obtain ⟨_, hG⟩ := gO_s hG
        obtain ⟨_, hG⟩ := gT_s hG
        obtain ⟨_, _, hG⟩ := gW_s hG
        obtain ⟨s, h1, hG⟩ := gb_s hG
        obtain ⟨⟨a1, a2, a3, a4, a5, _⟩, _⟩ := mo_of (M := 1) (tkN_b T n _ hu.2.1).2.1 hv h1 hb (by decide) trivial (fun h => h) (fun h => h)
        cases hG
        exact inf_node (by omega) (by decide)
      rw [if_neg c2] at hG
      exact gi_head (nt := 13) (lp := 12) ih (by decide) (by decide) hq hv hb trivial (by decide) (fun _ h => h) (fun _ h => h) (fun _ _ _ h => h) hG
    | 12, _, hG, hN, hI =>
      have hN : 1 ≤ e ∧ e < b.1 := hN
      rw [G_12] at hG
      by_cases c1 : tkK T n q = 6 ∨ tkK T n q = 8
      · rw [if_pos c1] at hG
        obtain ⟨_, hG⟩ := gO_s hG
        obtain ⟨_, hG⟩ := gT_s hG
        obtain ⟨s, h1, hG⟩ := gb_s hG
        obtain ⟨⟨a1, a2, a3, a4, a5, _⟩, _⟩ := mo_of (M := 1) hu.2.1 hv h1 hb (by decide) trivial (fun h => h) (fun h => h)
        have hk1 := gk4 hu.2.1 hv hb h1 trivial
        try dsimp only at hG
        by_cases c2 : tkK T n q = 6 ∧ tkK T n s.1 = 16
        · rw [if_pos c2] at hG
          obtain ⟨_, hG⟩ := gT_s hG
          obtain ⟨s2, h2, hG⟩ := gb_s hG
          have hws := (tkN_b T n s.1 a2).2.1
          obtain ⟨⟨f1, f2, f3, f4, f5, _⟩, _⟩ := mo_of (M := 1) hws (by omega) h2 (by omega) (by decide) trivial (fun h => h) (fun h => h)
          have hk2 := gk4 hws (by omega) (by omega) h2 trivial
          obtain ⟨_, _, hG⟩ := gW_s hG
          refine ih 12 _ _ _ _ _ _ _ _ _ _ (by decide) (tkN_b T n s2.1 f2).2.1 (by omega) (by rw [bSet_1, bOver_1]; omega) hG (⟨by omega, by rw [bSet_1, bOver_1]; omega⟩ : 1 ≤ _ ∧ _ < _) (fun _ => ?_)
          exact inf_set (Or.inl rfl) (by rw [bOver_1]; omega) (inf_part (b0 := b) (by omega) (by decide) (by omega) (fun h hh => (hk2.1 h (by omega)).trans (hk1.1 h hh)) (fun h hh => (hk2.2 h (by omega)).trans (hk1.2 h hh)) hN.2 (hI (by decide)))
        · rw [if_neg c2] at hG
          obtain ⟨_, _, hG⟩ := gW_s hG
          refine ih 12 _ _ _ _ _ _ _ _ _ _ (by decide) (tkN_b T n s.1 a2).2.1 (by omega) (by rw [bOver_1]; omega) hG (⟨by omega, by rw [bOver_1]; omega⟩ : 1 ≤ _ ∧ _ < _) (fun _ => ?_)
          exact inf_part (b0 := b) (by omega) (by split <;> decide) (by omega) hk1.1 hk1.2 hN.2 (hI (by decide))
      · rw [if_neg c1] at hG; cases hG; exact hI (by decide)
    | 13, _, hG, _, _ => exact gi_13 ih hq hv hb hG
    | 15, _, hG, hN, _ =>
      have hN : 1 ≤ i ∧ i < b.1 ∧ 1 ≤ e ∧ e < b.1 := hN
      rw [G_15] at hG
      by_cases k : tkK T n q = 12
      · rw [if_pos k] at hG
        obtain ⟨_, hG⟩ := gT_s hG
        obtain ⟨s, h1, hG⟩ := gb_s hG
        obtain ⟨⟨a1, a2, a3, a4, a5, a6, a7, a8⟩, a9⟩ := mo_of (M := 1) hu.2.1 hv h1 hb (by decide) trivial (fun h => h) (fun h => h)
        try dsimp only at hG
        by_cases c1 : c = 1 ∧ tkK T n s.1 = 16
        · rw [if_pos c1] at hG
          obtain ⟨_, hG⟩ := gT_s hG
          obtain ⟨s2, h2, hG⟩ := gb_s hG
          obtain ⟨⟨f1, f2, f3, f4, f5, _⟩, _⟩ := mo_of (M := 1) (tkN_b T n s.1 a2).2.1 (by omega) h2 (by omega) (by decide) trivial (fun h => h) (fun h => h)
          cases hG
          exact inf_wrap (by omega) (by decide)
        · rw [if_neg c1] at hG
          exact ih 15 _ _ _ _ _ _ _ _ _ _ (Or.inr rfl) a2 (by omega) (by rw [bSet_1]; omega) hG (⟨by omega, by rw [bSet_1]; omega, a9.1, by rw [bSet_1]; exact a9.2⟩ : 1 ≤ _ ∧ _ < _ ∧ 1 ≤ _ ∧ _ < _) (fun z => absurd z (by decide))
      · rw [if_neg k] at hG
        cases hG
        exact inf_node hb (by split <;> decide)
    | 14, hnt, _, _, _ => exact absurd hnt (by decide)
    | nt + 16, hnt, _, _, _ => exact absurd hnt (by omega)
end GINF
