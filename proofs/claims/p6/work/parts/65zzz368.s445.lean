/-! The class: how its parser stands. -/
section CVD
variable {σ σ' σ2 τ : CS} {L : LV} {b : Bool} {T : Nat → Int32} {n q q' u al o v mk mk' p sz sz' nc nc' m : Nat} {x y z : Int32} {l l' : List Int32}
/-- a name that is told: bytes, what it is, of which unit, slot, whether it is hidden -/
abbrev Ent := List Int32 × Nat × Nat × Nat × Bool
def e0E : Ent := ([], 0, 0, 0, false)
/-- the names' table -/
def TbR (b : Bool) (tb : List Ent) (σ : CS) : Prop := σ.1 (fP b 11) = nI tb.length ∧ tb.length ≤ 256 ∧ ∀ i, i < tb.length → okN (tb.getD i e0E).1 ∧ σ.2.2.2.1 (pR5 b) i = kyH (tb.getD i e0E).1 ∧ σ.2.2.2.1 (pR6 b) i = kyL (tb.getD i e0E).1 ∧ σ.2.2.1 (pR7 b) i = nI (tb.getD i e0E).2.1 ∧ σ.2.2.1 (pR8 b) i = nI (tb.getD i e0E).2.2.1 ∧ σ.2.2.1 (pR9 b) i = nI (tb.getD i e0E).2.2.2.1 ∧ σ.2.2.1 (pR10 b) i = (if (tb.getD i e0E).2.2.2.2 = true then 1 else 0)
/-- what reading exps leaves, but for names, code and marks that come behind -/
def XK (b : Bool) (u nc sz mk : Nat) (σ σ' : CS) : Prop := ((∀ j, ¬ (j = 404 ∨ (3702 ≤ j ∧ j ≤ 3704) ∨ (4005 ≤ j ∧ j ≤ 4020 ∧ ¬ j = 4008 ∧ ¬ j = 4009 ∧ ¬ j = 4013) ∨ j = fP b 1 ∨ j = fP b 11 ∨ j = fP b 19) → σ'.1 j = σ.1 j) ∧ (∀ j, ¬ (j = 3705 ∨ j = 3706) → σ'.2.1 j = σ.2.1 j)) ∧ ((∀ k, ¬ ((5 ≤ k ∧ k ≤ 11) ∨ k = 41 ∨ k = 43 ∨ k = 51 ∨ k = pR7 b ∨ k = pR8 b ∨ k = pR9 b ∨ k = pR10 b ∨ k = pR16 b) → σ'.2.2.1 k = σ.2.2.1 k) ∧ (∀ k, ¬ (k = 41 ∨ k = 43 ∨ k = 51) → sN σ' k = sN σ k) ∧ (∀ k, ¬ (k = pR5 b ∨ k = pR6 b) → σ'.2.2.2.1 k = σ.2.2.2.1 k)) ∧ ((sCur σ' = sCur σ ∧ sOt σ' = sOt σ ∧ sPr σ' = sPr σ ∧ sPp σ' = sPp σ) ∧ (∀ c, ¬ c = b → sKd σ' c = sKd σ c) ∧ σ'.2.2.2.2.2.2 = σ.2.2.2.2.2.2) ∧ (∀ i, ¬ i = u → σ'.2.2.1 (pR16 b) i = σ.2.2.1 (pR16 b) i) ∧ (∀ i, i < nc → (σ'.2.2.2.1 (pR5 b) i = σ.2.2.2.1 (pR5 b) i ∧ σ'.2.2.2.1 (pR6 b) i = σ.2.2.2.1 (pR6 b) i) ∧ (σ'.2.2.1 (pR7 b) i = σ.2.2.1 (pR7 b) i ∧ σ'.2.2.1 (pR8 b) i = σ.2.2.1 (pR8 b) i) ∧ σ'.2.2.1 (pR9 b) i = σ.2.2.1 (pR9 b) i ∧ σ'.2.2.1 (pR10 b) i = σ.2.2.1 (pR10 b) i) ∧ (∀ i, i < sz → cdr b σ' i = cdr b σ i ∧ cdr (!b) σ' i = cdr (!b) σ i) ∧ (∀ i, i < mk → σ'.2.2.1 41 i = σ.2.2.1 41 i) ∧ (sz ≤ cdn b σ' ∧ (cdn b σ' = 36864 ∨ (sN σ' 43 = 1024 ∧ sN σ' 51 = 1024))) ∧ (mk ≤ sN σ' 41 ∧ sN σ' 41 ≤ 21504)
theorem XK_t (a : XK b u nc sz mk σ σ') (d : XK b u nc' sz' mk' σ' σ2) (h1 : nc ≤ nc') (h2 : sz ≤ sz') (h3 : mk ≤ mk') : XK b u nc sz mk σ σ2 := by
  obtain ⟨⟨a1, a2⟩, ⟨a3, a4, a5⟩, ⟨⟨a6, a7, a8, a9⟩, a10, a11⟩, a12, a13, a14, a15, a16, a17⟩ := a
  obtain ⟨⟨d1, d2⟩, ⟨d3, d4, d5⟩, ⟨⟨d6, d7, d8, d9⟩, d10, d11⟩, d12, d13, d14, d15, d16, d17⟩ := d
  refine ⟨⟨fun j hj => (d1 j hj).trans (a1 j hj), fun j hj => (d2 j hj).trans (a2 j hj)⟩, ⟨fun k hk => (d3 k hk).trans (a3 k hk), fun k hk => (d4 k hk).trans (a4 k hk), fun k hk => (d5 k hk).trans (a5 k hk)⟩, ⟨⟨d6.trans a6, d7.trans a7, d8.trans a8, d9.trans a9⟩, fun c hc => (d10 c hc).trans (a10 c hc), d11.trans a11⟩, fun i hi => (d12 i hi).trans (a12 i hi), fun i hi => ?_, fun i hi => ⟨(d14 i (by omega)).1.trans (a14 i hi).1, (d14 i (by omega)).2.trans (a14 i hi).2⟩, fun i hi => (d15 i (by omega)).trans (a15 i hi), ⟨by omega, d16.2⟩, ⟨by omega, d17.2⟩⟩
  have y := d13 i (by omega)
  have w := a13 i hi
  exact ⟨⟨y.1.1.trans w.1.1, y.1.2.trans w.1.2⟩, ⟨y.2.1.1.trans w.2.1.1, y.2.1.2.trans w.2.1.2⟩, y.2.2.1.trans w.2.2.1, y.2.2.2.trans w.2.2.2⟩
/-- how the parser stands: program b, unit u, what is allowed; names, how many are open, token, variables, marks, slots of iters, code -/
def QS (T : Nat → Int32) (n : Nat) (b : Bool) (u al : Nat) (tb : List Ent) (o q v mk p sz : Nat) (σ : CS) : Prop := LxQ T n q σ ∧ CdL b sz σ ∧ MkL mk σ ∧ TbR b tb σ ∧ (sPp σ = some b ∧ σ.1 4003 = nI u ∧ σ.1 4004 = nI al) ∧ (σ.1 4005 = nI o ∧ o ≤ 20) ∧ (σ.2.2.1 (pR16 b) u = nI v ∧ v ≤ 60) ∧ σ.1 (fP b 19) = nI p
variable {tb tb' : List Ent}
theorem XK_r (h : QS T n b u al tb o q v mk p sz σ) : XK b u tb.length sz mk σ σ := ⟨⟨fun _ _ => rfl, fun _ _ => rfl⟩, ⟨fun _ _ => rfl, fun _ _ => rfl, fun _ _ => rfl⟩, ⟨⟨rfl, rfl, rfl, rfl⟩, fun _ _ => rfl, rfl⟩, fun _ _ => rfl, fun _ _ => ⟨⟨rfl, rfl⟩, ⟨rfl, rfl⟩, rfl, rfl⟩, fun _ _ => ⟨rfl, rfl⟩, fun _ _ => rfl, h.2.1.2, h.2.2.1.2⟩
/-- costs, where it may throw -/
def CoT (σ : CS) (r : RS) : Prop := (r.1.1 = 0 → CoP σ r) ∧ (¬ r.1.1 = 0 → r.2.2.1 + PhC r.2.1 ≤ PhC σ + 1 ∧ r.2.2.2 + PhS r.2.1 ≤ PhS σ + 6)
theorem CoT_p {r : RS} (h : CoP σ r) : CoT σ r := ⟨fun _ => h, fun _ => ⟨by have := h.1; omega, by have := h.2; omega⟩⟩
theorem CoT_t {n1 n2 : Nat} {q : RS} (a : n1 + PhC τ ≤ PhC σ ∧ n2 + PhS τ ≤ PhS σ) (d : CoT τ q) : CoT σ (q.1, q.2.1, (n1 + q.2.2.1, n2 + q.2.2.2)) := by
  refine ⟨fun e => ?_, fun e => ?_⟩
  · have z := d.1 e
    have z1 := z.1
    have z2 := z.2
    exact ⟨by show n1 + q.2.2.1 + PhC q.2.1 ≤ _; omega, by show n2 + q.2.2.2 + PhS q.2.1 ≤ _; omega⟩
  · have z := d.2 e
    exact ⟨by show n1 + q.2.2.1 + PhC q.2.1 ≤ _; omega, by show n2 + q.2.2.2 + PhS q.2.1 ≤ _; omega⟩
theorem TbR_s (h : TbR b tb σ) (e1 : σ'.1 (fP b 11) = σ.1 (fP b 11)) (e5 : σ'.2.2.2.1 (pR5 b) = σ.2.2.2.1 (pR5 b)) (e6 : σ'.2.2.2.1 (pR6 b) = σ.2.2.2.1 (pR6 b)) (e7 : σ'.2.2.1 (pR7 b) = σ.2.2.1 (pR7 b)) (e8 : σ'.2.2.1 (pR8 b) = σ.2.2.1 (pR8 b)) (e9 : σ'.2.2.1 (pR9 b) = σ.2.2.1 (pR9 b)) (e10 : σ'.2.2.1 (pR10 b) = σ.2.2.1 (pR10 b)) : TbR b tb σ' := by
  unfold TbR
  rw [e1, e5, e6, e7, e8, e9, e10]
  exact h
theorem LxQ_s (h : LxQ T n q σ) (e1 : ∀ j, 3701 ≤ j → j ≤ 3704 → σ'.1 j = σ.1 j) (e2 : σ'.2.1 3705 = σ.2.1 3705 ∧ σ'.2.1 3706 = σ.2.1 3706) (e3 : σ'.2.2.1 38 = σ.2.2.1 38) (e4 : sN σ' 38 = sN σ 38) (e5 : σ'.2.2.2.1 39 = σ.2.2.2.1 39) : LxQ T n q σ' := by
  unfold LxQ cN
  rw [e1 3701 (by decide) (by decide), e1 3702 (by decide) (by decide), e1 3703 (by decide) (by decide), e1 3704 (by decide) (by decide), e2.1, e2.2, e3, e4, e5]
  exact h
theorem CdL_s (h : CdL b sz σ) (e1 : σ'.1 (fP b 1) = σ.1 (fP b 1)) (e2 : sKd σ' b = sKd σ b) (e3 : sN σ' 43 = sN σ 43 ∧ sN σ' 51 = sN σ 51) : CdL b sz σ' := by
  have en : cdn b σ' = cdn b σ := by
    show sN σ' (pR0 (sKd σ' b)) = sN σ (pR0 (sKd σ b))
    rw [e2]
    rcases pR0_c (sKd σ b) with z | z
    · rw [z]; exact e3.1
    · rw [z]; exact e3.2
  unfold CdL
  rw [e1, en, e3.1, e3.2]
  exact h
theorem fP_c (b : Bool) (j : Nat) : fP b j = 5000 + j ∨ fP b j = 6800 + j := by
  cases b
  · exact Or.inr rfl
  · exact Or.inl rfl
theorem pR_c (b : Bool) : (pR5 b = 44 ∧ pR6 b = 45 ∧ pR7 b = 46 ∧ pR8 b = 47 ∧ pR9 b = 48 ∧ pR10 b = 49 ∧ pR14 b = 70 ∧ pR16 b = 72) ∨ (pR5 b = 52 ∧ pR6 b = 53 ∧ pR7 b = 54 ∧ pR8 b = 55 ∧ pR9 b = 56 ∧ pR10 b = 57 ∧ pR14 b = 59 ∧ pR16 b = 61) := by
  cases b
  · left; exact ⟨rfl, rfl, rfl, rfl, rfl, rfl, rfl, rfl⟩
  · right; exact ⟨rfl, rfl, rfl, rfl, rfl, rfl, rfl, rfl⟩
/-- code is laid -/
theorem QS_cd (h : QS T n b u al tb o q v mk p sz σ) (a : CdO b sz l σ σ') : QS T n b u al tb o q v mk p (sz + l.length) σ' ∧ XK b u tb.length sz mk σ σ' := by
  obtain ⟨h1, h2, h3, h4, ⟨h5, h5', h5''⟩, ⟨h6, h6'⟩, ⟨h7, h7'⟩, h8⟩ := h
  obtain ⟨a1, a2, a3, a4⟩ := a
  obtain ⟨f1, f2, f3, f4, f5, f6, f7⟩ := a1
  have pc := pR_c b
  have fc1 := fP_c b 1
  have fc2 := fP_c b 11
  have fc3 := fP_c b 19
  have f1' : ∀ j, j < 5000 → σ'.1 j = σ.1 j := fun j hj => f1 j (by omega)
  refine ⟨⟨LxQ_s h1 (fun j _ hj => f1' j (by omega)) (by rw [f2]; exact ⟨rfl, rfl⟩) (f3 38 (by decide)).1 (f3 38 (by decide)).2 (by rw [f4]), a2, ?_, TbR_s h4 (f1 _ (fP_ne b (by decide))) (by rw [f4]) (by rw [f4]) (f3 _ (by omega)).1 (f3 _ (by omega)).1 (f3 _ (by omega)).1 (f3 _ (by omega)).1, ⟨by rw [f5.2.2.2]; exact h5, by rw [f1' _ (by decide)]; exact h5', by rw [f1' _ (by decide)]; exact h5''⟩, ⟨by rw [f1' _ (by decide)]; exact h6, h6'⟩, ⟨by rw [(f3 _ (by omega)).1]; exact h7, h7'⟩, by rw [f1 _ (fP_ne b (by decide))]; exact h8⟩, ?_⟩
  · unfold MkL
    rw [f1' _ (by decide), (f3 41 (by decide)).2]
    exact h3
  · refine ⟨⟨fun j hj => f1 j (by omega), fun j _ => by rw [f2]⟩, ⟨fun k hk => (f3 k (by omega)).1, fun k hk => (f3 k (by omega)).2, fun k _ => by rw [f4]⟩, ⟨f5, f6, f7⟩, fun i _ => by rw [(f3 _ (by omega)).1], fun i hi => ⟨⟨by rw [f4], by rw [f4]⟩, ⟨by rw [(f3 _ (by omega)).1], by rw [(f3 _ (by omega)).1]⟩, by rw [(f3 _ (by omega)).1], by rw [(f3 _ (by omega)).1]⟩, a3, fun i hi => by rw [(f3 41 (by decide)).1], ⟨by have := a2.2.1; omega, a2.2.2⟩, ?_⟩
    rw [(f3 41 (by decide)).2]
    exact h3.2
/-- marks are laid -/
theorem QS_mk (h : QS T n b u al tb o q v mk p sz σ) (a : MrO mk l σ σ') : QS T n b u al tb o q v (mk + l.length) p sz σ' ∧ XK b u tb.length sz mk σ σ' := by
  obtain ⟨h1, h2, h3, h4, ⟨h5, h5', h5''⟩, ⟨h6, h6'⟩, ⟨h7, h7'⟩, h8⟩ := h
  obtain ⟨⟨f1, f2, f3, f4, f5⟩, a2, a3, a4⟩ := a
  have pc := pR_c b
  have fc1 := fP_c b 1
  have fc2 := fP_c b 11
  have fc3 := fP_c b 19
  have kd : ∀ c, sKd σ' c = sKd σ c := fun c => by show σ'.2.2.2.2.2.1.2.2.2.2 c = _; rw [f5]
  have cd : ∀ c i, cdr c σ' i = cdr c σ i := fun c i => by
    show σ'.2.2.1 (pR0 (sKd σ' c)) i = _
    rw [kd c]
    rcases pR0_c (sKd σ c) with z | z
    · rw [(f3 _ (by omega)).1]
    · rw [(f3 _ (by omega)).1]
  have cl := CdL_s h2 (f1 _ (by omega)) (kd b) ⟨(f3 43 (by decide)).2, (f3 51 (by decide)).2⟩
  refine ⟨⟨LxQ_s h1 (fun j _ hj => f1 j (by omega)) (by rw [f2]; exact ⟨rfl, rfl⟩) (f3 38 (by decide)).1 (f3 38 (by decide)).2 (by rw [f4]), cl, a2, TbR_s h4 (f1 _ (by omega)) (by rw [f4]) (by rw [f4]) (f3 _ (by omega)).1 (f3 _ (by omega)).1 (f3 _ (by omega)).1 (f3 _ (by omega)).1, ⟨by show σ'.2.2.2.2.2.1.2.2.2.1 = _; rw [f5]; exact h5, by rw [f1 _ (by decide)]; exact h5', by rw [f1 _ (by decide)]; exact h5''⟩, ⟨by rw [f1 _ (by decide)]; exact h6, h6'⟩, ⟨by rw [(f3 _ (by omega)).1]; exact h7, h7'⟩, by rw [f1 _ (by omega)]; exact h8⟩, ?_⟩
  refine ⟨⟨fun j hj => f1 j (by omega), fun j _ => by rw [f2]⟩, ⟨fun k hk => (f3 k (by omega)).1, fun k hk => (f3 k (by omega)).2, fun k _ => by rw [f4]⟩, ⟨⟨by show σ'.2.2.2.2.2.1.1 = _; rw [f5], by show σ'.2.2.2.2.2.1.2.1 = _; rw [f5], by show σ'.2.2.2.2.2.1.2.2.1 = _; rw [f5], by show σ'.2.2.2.2.2.1.2.2.2.1 = _; rw [f5]⟩, fun c _ => kd c, by rw [f5]⟩, fun i _ => by rw [(f3 _ (by omega)).1], fun i hi => ⟨⟨by rw [f4], by rw [f4]⟩, ⟨by rw [(f3 _ (by omega)).1], by rw [(f3 _ (by omega)).1]⟩, by rw [(f3 _ (by omega)).1], by rw [(f3 _ (by omega)).1]⟩, fun i _ => ⟨cd b i, cd (!b) i⟩, a3, cl.2, ⟨by have := a2.2.1; omega, a2.2.2⟩⟩
/-- fields that the parser may set: the rest stays -/
theorem QS_f (h : QS T n b u al tb o q v mk p sz σ) {o' mk' p' : Nat} (f1 : ∀ j, ¬ (j = 404 ∨ (4005 ≤ j ∧ j ≤ 4020 ∧ ¬ j = 4008 ∧ ¬ j = 4009 ∧ ¬ j = 4013) ∨ j = fP b 19) → σ'.1 j = σ.1 j) (f2 : σ'.2 = σ.2) (e5 : σ'.1 4005 = nI o') (ho : o' ≤ 20) (e11 : σ'.1 4011 = nI mk') (hm : mk' ≤ mk) (e19 : σ'.1 (fP b 19) = nI p') : QS T n b u al tb o' q v mk' p' sz σ' ∧ XK b u tb.length sz mk' σ σ' := by
  obtain ⟨h1, h2, h3, h4, ⟨h5, h5', h5''⟩, ⟨h6, h6'⟩, ⟨h7, h7'⟩, h8⟩ := h
  have fc1 := fP_c b 1
  have fc2 := fP_c b 11
  have fc3 := fP_c b 19
  have sn : ∀ k, sN σ' k = sN σ k := fun k => by show σ'.2.2.2.2.1 k = _; rw [f2]
  have kd : ∀ c, sKd σ' c = sKd σ c := fun c => by show σ'.2.2.2.2.2.1.2.2.2.2 c = _; rw [f2]
  have cl := CdL_s h2 (f1 _ (by rcases fc1 with z | z <;> rcases fc3 with w | w <;> omega)) (kd b) ⟨sn 43, sn 51⟩
  have m3 := h3.2
  have c19 : ∀ j, j < 5000 → ¬ j = fP b 19 := fun j hj => by omega
  refine ⟨⟨LxQ_s h1 (fun j _ hj => f1 j (by omega)) (by rw [f2]; exact ⟨rfl, rfl⟩) (by rw [f2]) (sn 38) (by rw [f2]), cl, ⟨e11, by rw [sn]; omega, by rw [sn]; exact m3.2⟩, TbR_s h4 (f1 _ (by have := fP_ne b (i := 11) (j := 19) (by decide); omega)) (by rw [f2]) (by rw [f2]) (by rw [f2]) (by rw [f2]) (by rw [f2]) (by rw [f2]), ⟨by show σ'.2.2.2.2.2.1.2.2.2.1 = _; rw [f2]; exact h5, by rw [f1 _ (by omega)]; exact h5', by rw [f1 _ (by omega)]; exact h5''⟩, ⟨e5, ho⟩, ⟨by rw [f2]; exact h7, h7'⟩, e19⟩, ?_⟩
  refine ⟨⟨fun j hj => f1 j (by omega), fun j _ => by rw [f2]⟩, ⟨fun k hk => by rw [f2], fun k hk => sn k, fun k _ => by rw [f2]⟩, ⟨⟨by show σ'.2.2.2.2.2.1.1 = _; rw [f2], by show σ'.2.2.2.2.2.1.2.1 = _; rw [f2], by show σ'.2.2.2.2.2.1.2.2.1 = _; rw [f2], by show σ'.2.2.2.2.2.1.2.2.2.1 = _; rw [f2]⟩, fun c _ => kd c, by rw [f2]⟩, fun i _ => by rw [f2], fun i hi => by rw [f2]; exact ⟨⟨rfl, rfl⟩, ⟨rfl, rfl⟩, rfl, rfl⟩, fun i _ => ⟨?_, ?_⟩, fun i _ => by rw [f2], cl.2, ⟨by rw [sn]; omega, by rw [sn]; exact m3.2⟩⟩
  · show σ'.2.2.1 (pR0 (sKd σ' b)) i = _; rw [kd b, f2]
  · show σ'.2.2.1 (pR0 (sKd σ' (!b))) i = _; rw [kd (!b), f2]
/-- the next token -/
def QA (T : Nat → Int32) (n : Nat) (b : Bool) (u al : Nat) (tb : List Ent) (o q v mk p sz : Nat) (σ : CS) (r : RS) : Prop := (tkK T n q = 0 → r.1.1 = 1) ∧ (¬ tkK T n q = 0 → r.1.1 = 0 ∧ QS T n b u al tb o q v mk p sz r.2.1) ∧ CoT σ r ∧ XK b u tb.length sz mk σ r.2.1
theorem c_advQ (h : QS T n b u al tb o q v mk p sz σ) : Tm (fun k => f_X2_advance k 0 L σ) (QA T n b u al tb o (tkN T n q) v mk p sz σ) := by
  have hh := h
  obtain ⟨h1, h2, h3, h4, ⟨h5, h5', h5''⟩, ⟨h6, h6'⟩, ⟨h7, h7'⟩, h8⟩ := h
  refine Tm_mono (c_adv h1) (fun r z => ?_)
  obtain ⟨z1, z2, kd, st, en, hi, lo, z3⟩ := z
  have fc1 := fP_c b 1
  have fc2 := fP_c b 11
  have fc3 := fP_c b 19
  have f1 : ∀ j, ¬ (3702 ≤ j ∧ j ≤ 3704) → r.2.1.1 j = σ.1 j := fun j hj => by
    rw [z3]
    show upd (upd (upd σ.1 3702 kd) 3703 st) 3704 en j = _
    rw [upd_other (by omega), upd_other (by omega), upd_other (by omega)]
  have f2 : r.2.1.2.2 = σ.2.2 := by rw [z3]; rfl
  have fl : ∀ j, ¬ (j = 3705 ∨ j = 3706) → r.2.1.2.1 j = σ.2.1 j := fun j hj => by
    rw [z3]
    show updW (updW σ.2.1 3705 hi) 3706 lo j = _
    rw [updW_other (by omega), updW_other (by omega)]
  have sn : ∀ k, sN r.2.1 k = sN σ k := fun k => by show r.2.1.2.2.2.2.1 k = _; rw [f2]
  have kd' : ∀ c, sKd r.2.1 c = sKd σ c := fun c => by show r.2.1.2.2.2.2.2.1.2.2.2.2 c = _; rw [f2]
  have cl := CdL_s h2 (f1 _ (by omega)) (kd' b) ⟨sn 43, sn 51⟩
  have ph := Ph_s (σ := σ) (σ' := r.2.1) (by rw [f2])
  have xk : XK b u tb.length sz mk σ r.2.1 := by
    refine ⟨⟨fun j hj => f1 j (by omega), fl⟩, ⟨fun k hk => by rw [f2], fun k hk => sn k, fun k _ => by rw [f2]⟩, ⟨⟨by show r.2.1.2.2.2.2.2.1.1 = _; rw [f2], by show r.2.1.2.2.2.2.2.1.2.1 = _; rw [f2], by show r.2.1.2.2.2.2.2.1.2.2.1 = _; rw [f2], by show r.2.1.2.2.2.2.2.1.2.2.2.1 = _; rw [f2]⟩, fun c _ => kd' c, by rw [f2]⟩, fun i _ => by rw [f2], fun i hi => by rw [f2]; exact ⟨⟨rfl, rfl⟩, ⟨rfl, rfl⟩, rfl, rfl⟩, fun i _ => ⟨?_, ?_⟩, fun i _ => by rw [f2], cl.2, ⟨by rw [sn]; exact h3.2.1, by rw [sn]; exact h3.2.2⟩⟩
    · show r.2.1.2.2.1 (pR0 (sKd r.2.1 b)) i = _; rw [kd' b, f2]
    · show r.2.1.2.2.1 (pR0 (sKd r.2.1 (!b))) i = _; rw [kd' (!b), f2]
  refine ⟨fun e => by rw [(z1 e).1], fun e => ?_, ?_, xk⟩
  · obtain ⟨w1, w2, w3⟩ := z2 e
    refine ⟨by rw [w1], w3, cl, ⟨by rw [f1 _ (by omega)]; exact h3.1, by rw [sn]; exact h3.2.1, by rw [sn]; exact h3.2.2⟩, TbR_s h4 (f1 _ (by omega)) (by rw [f2]) (by rw [f2]) (by rw [f2]) (by rw [f2]) (by rw [f2]) (by rw [f2]), ⟨by show r.2.1.2.2.2.2.2.1.2.2.2.1 = _; rw [f2]; exact h5, by rw [f1 _ (by omega)]; exact h5', by rw [f1 _ (by omega)]; exact h5''⟩, ⟨by rw [f1 _ (by omega)]; exact h6, h6'⟩, ⟨by rw [f2]; exact h7, h7'⟩, by rw [f1 _ (by omega)]; exact h8⟩
  · by_cases e : tkK T n (tkN T n q) = 0
    · obtain ⟨w1, w2⟩ := z1 e
      refine ⟨fun y => absurd y (by rw [w1]; decide), fun _ => ?_⟩
      rw [w2]
      exact ⟨by show 1 + PhC r.2.1 ≤ _; omega, by show 6 + PhS r.2.1 ≤ _; omega⟩
    · obtain ⟨w1, w2, _⟩ := z2 e
      refine CoT_p ⟨?_, ?_⟩
      · rw [w2]; show 0 + PhC r.2.1 ≤ _; omega
      · rw [w2]; show 0 + PhS r.2.1 ≤ _; omega
end CVD
