/-! The class: how its parser stands among statements. -/
section CXA
variable {σ σ' σ0 σ2 τ τ' : CS} {L : LV} {b : Bool} {T : Nat → Int32} {n q q' u al o v mk mk' p sz sz' szB nc nc' nc0 sz0 mk0 a1 a2 m kk f e w w' st st' : Nat} {y qh qh' : Int32} {l l' cs cs' : List Int32} {tb tb' : List Ent} {α : Type} {x : Option α} {S : α → Int32 → CS → Prop} {C : Prop} {E : En} {gl : Nat × (Nat → Nat → Prop)} {Vm : Nat → Prop} {bt : BT} {lo lo' : Option Nat}
/-- what reading statements leaves, but for names, code and marks that come behind -/
def ZK (b : Bool) (u nc sz mk : Nat) (σ σ' : CS) : Prop := ((∀ j, ¬ (j = 404 ∨ (3702 ≤ j ∧ j ≤ 3704) ∨ (4005 ≤ j ∧ j ≤ 4020) ∨ j = fP b 1 ∨ j = fP b 3 ∨ j = fP b 11 ∨ j = fP b 19) → σ'.1 j = σ.1 j) ∧ (∀ j, ¬ (j = 3705 ∨ j = 3706) → σ'.2.1 j = σ.2.1 j)) ∧ ((∀ k, ¬ ((5 ≤ k ∧ k ≤ 11) ∨ (41 ≤ k ∧ k ≤ 43) ∨ k = 51 ∨ k = pR7 b ∨ k = pR8 b ∨ k = pR9 b ∨ k = pR10 b ∨ k = pR16 b ∨ k = pR17 b ∨ k = pR18 b) → σ'.2.2.1 k = σ.2.2.1 k) ∧ (∀ k, ¬ ((41 ≤ k ∧ k ≤ 43) ∨ k = 51) → sN σ' k = sN σ k) ∧ (∀ k, ¬ (k = pR5 b ∨ k = pR6 b) → σ'.2.2.2.1 k = σ.2.2.2.1 k)) ∧ ((sCur σ' = sCur σ ∧ sOt σ' = sOt σ ∧ sPr σ' = sPr σ ∧ sPp σ' = sPp σ) ∧ (∀ c, ¬ c = b → sKd σ' c = sKd σ c) ∧ σ'.2.2.2.2.2.2 = σ.2.2.2.2.2.2) ∧ (∀ i, ¬ i = u → σ'.2.2.1 (pR16 b) i = σ.2.2.1 (pR16 b) i ∧ σ'.2.2.1 (pR18 b) i = σ.2.2.1 (pR18 b) i) ∧ (∀ i, i < nc → (σ'.2.2.2.1 (pR5 b) i = σ.2.2.2.1 (pR5 b) i ∧ σ'.2.2.2.1 (pR6 b) i = σ.2.2.2.1 (pR6 b) i) ∧ (σ'.2.2.1 (pR7 b) i = σ.2.2.1 (pR7 b) i ∧ σ'.2.2.1 (pR8 b) i = σ.2.2.1 (pR8 b) i) ∧ σ'.2.2.1 (pR9 b) i = σ.2.2.1 (pR9 b) i ∧ σ'.2.2.1 (pR10 b) i = σ.2.2.1 (pR10 b) i) ∧ (∀ i, i < sz → cdr b σ' i = cdr b σ i ∧ cdr (!b) σ' i = cdr (!b) σ i) ∧ (∀ i, i < mk → σ'.2.2.1 41 i = σ.2.2.1 41 i) ∧ (sz ≤ cdn b σ' ∧ (cdn b σ' = 36864 ∨ (sN σ' 43 = 1024 ∧ sN σ' 51 = 1024))) ∧ (mk ≤ sN σ' 41 ∧ sN σ' 41 ≤ 21504) ∧ (sN σ' 42 = sN σ 42 ∨ sN σ' 42 = 16384)
theorem ZK_t (a : ZK b u nc sz mk σ σ') (d : ZK b u nc' sz' mk' σ' σ2) (h1 : nc ≤ nc') (h2 : sz ≤ sz') (h3 : mk ≤ mk') : ZK b u nc sz mk σ σ2 := by
  obtain ⟨⟨a1, a2⟩, ⟨a3, a4, a5⟩, ⟨⟨a6, a7, a8, a9⟩, a10, a11⟩, a12, a13, a14, a15, a16, a17, a18⟩ := a
  obtain ⟨⟨d1, d2⟩, ⟨d3, d4, d5⟩, ⟨⟨d6, d7, d8, d9⟩, d10, d11⟩, d12, d13, d14, d15, d16, d17, d18⟩ := d
  refine ⟨⟨fun j hj => (d1 j hj).trans (a1 j hj), fun j hj => (d2 j hj).trans (a2 j hj)⟩, ⟨fun k hk => (d3 k hk).trans (a3 k hk), fun k hk => (d4 k hk).trans (a4 k hk), fun k hk => (d5 k hk).trans (a5 k hk)⟩, ⟨⟨d6.trans a6, d7.trans a7, d8.trans a8, d9.trans a9⟩, fun c hc => (d10 c hc).trans (a10 c hc), d11.trans a11⟩, fun i hi => ⟨(d12 i hi).1.trans (a12 i hi).1, (d12 i hi).2.trans (a12 i hi).2⟩, fun i hi => ?_, fun i hi => ⟨(d14 i (by omega)).1.trans (a14 i hi).1, (d14 i (by omega)).2.trans (a14 i hi).2⟩, fun i hi => (d15 i (by omega)).trans (a15 i hi), ⟨by omega, d16.2⟩, ⟨by omega, d17.2⟩, ?_⟩
  · have y := d13 i (by omega)
    have w := a13 i hi
    exact ⟨⟨y.1.1.trans w.1.1, y.1.2.trans w.1.2⟩, ⟨y.2.1.1.trans w.2.1.1, y.2.1.2.trans w.2.1.2⟩, y.2.2.1.trans w.2.2.1, y.2.2.2.trans w.2.2.2⟩
  · rcases d18 with z | z
    · rw [z]; exact a18
    · exact Or.inr z
theorem pR_d (b : Bool) : (pR7 b = 46 ∧ pR8 b = 47 ∧ pR9 b = 48 ∧ pR10 b = 49 ∧ pR13 b = 69 ∧ pR14 b = 70 ∧ pR15 b = 71 ∧ pR16 b = 72 ∧ pR17 b = 73 ∧ pR18 b = 74) ∨ (pR7 b = 54 ∧ pR8 b = 55 ∧ pR9 b = 56 ∧ pR10 b = 57 ∧ pR13 b = 58 ∧ pR14 b = 59 ∧ pR15 b = 60 ∧ pR16 b = 61 ∧ pR17 b = 62 ∧ pR18 b = 63) := by
  cases b
  · exact Or.inl (by decide)
  · exact Or.inr (by decide)
theorem ZK_of (h : XK b u nc sz mk σ σ') : ZK b u nc sz mk σ σ' := by
  obtain ⟨⟨d1, d2⟩, ⟨d3, d4, d5⟩, d6, d12, d13, d14, d15, d16, d17⟩ := h
  have pd := pR_d b
  exact ⟨⟨fun j hj => d1 j (by omega), d2⟩, ⟨fun k hk => d3 k (by omega), fun k hk => d4 k (by omega), d5⟩, d6, fun i hi => ⟨d12 i hi, by rw [d3 (pR18 b) (by omega)]⟩, d13, d14, d15, d16, d17, Or.inl (d4 42 (by decide))⟩
/-- where the next turn of the loop around begins -/
def lpI : Option Nat → Int32
  | none => -1
  | some p => nI p
/-- slots in use, statements, the loop around and its newest quit -/
def ZF (b : Bool) (u w st : Nat) (lo : Option Nat) (qh : Int32) (σ : CS) : Prop := σ.2.2.1 (pR18 b) u = nI w ∧ (σ.1 (fP b 3) = nI st ∧ st ≤ 400) ∧ σ.1 4008 = lpI lo ∧ σ.1 4009 = qh ∧ (sN σ 42 = 64 ∨ sN σ 42 = 16384)
theorem ZF_k (h : ZF b u w st lo qh σ) (x : XK b u nc sz mk σ σ') : ZF b u w st lo qh σ' := by
  obtain ⟨h1, h2, h3, h4, h5⟩ := h
  have pd := pR_d b
  have f3 : ¬ (fP b 3 = fP b 1 ∨ fP b 3 = fP b 11 ∨ fP b 3 = fP b 19) := by cases b <;> decide
  have fc := fP_c b 3
  refine ⟨by rw [x.2.1.1 (pR18 b) (by omega)]; exact h1, ⟨by rw [x.1.1 (fP b 3) (by omega)]; exact h2.1, h2.2⟩, ?_, ?_, by rw [x.2.1.2.1 42 (by decide)]; exact h5⟩
  · rw [x.1.1 4008 (by have := fP_c b 1; have := fP_c b 11; have := fP_c b 19; omega)]; exact h3
  · rw [x.1.1 4009 (by have := fP_c b 1; have := fP_c b 11; have := fP_c b 19; omega)]; exact h4
/-- what a method leaves, among statements -/
def ZPo (b : Bool) (u nc0 sz0 mk0 : Nat) {α : Type} (x : Option α) (S : α → Int32 → CS → Prop) (σ0 : CS) (a1 a2 : Nat) (r : RS) : Prop := (∀ t, x = some t → r.1.1 = 0 ∧ S t r.1.2 r.2.1) ∧ (x = none → r.1.1 = 1) ∧ (r.1.1 = 0 → a1 + r.2.2.1 + PhC r.2.1 ≤ PhC σ0 ∧ a2 + r.2.2.2 + PhS r.2.1 ≤ PhS σ0) ∧ (¬ r.1.1 = 0 → a1 + r.2.2.1 + PhC r.2.1 ≤ PhC σ0 + 1 ∧ a2 + r.2.2.2 + PhS r.2.1 ≤ PhS σ0 + 6) ∧ ZK b u nc0 sz0 mk0 σ0 r.2.1
theorem ZPo_of {r : RS} (h : QPo b u nc0 sz0 mk0 x S σ0 a1 a2 r) : ZPo b u nc0 sz0 mk0 x S σ0 a1 a2 r := ⟨h.1, h.2.1, h.2.2.1, h.2.2.2.1, ZK_of h.2.2.2.2⟩
theorem ZPo_s {n1 n2 : Nat} {r : RS} (h : ZPo b u nc0 sz0 mk0 x S σ0 (a1 + n1) (a2 + n2) r) : ZPo b u nc0 sz0 mk0 x S σ0 a1 a2 (r.1, r.2.1, (n1 + r.2.2.1, n2 + r.2.2.2)) := by
  obtain ⟨h1, h2, h3, h4, h5⟩ := h
  refine ⟨h1, h2, fun e => ?_, fun e => ?_, h5⟩
  · have z := h3 e
    show a1 + (n1 + r.2.2.1) + PhC r.2.1 ≤ _ ∧ a2 + (n2 + r.2.2.2) + PhS r.2.1 ≤ _
    omega
  · have z := h4 e
    show a1 + (n1 + r.2.2.1) + PhC r.2.1 ≤ _ ∧ a2 + (n2 + r.2.2.2) + PhS r.2.1 ≤ _
    omega
/-- how it stands among statements: within a method that began at σ0; the code laid since szB -/
def Zy (T : Nat → Int32) (n : Nat) (b : Bool) (u al : Nat) (σ0 : CS) (nc0 sz0 mk0 a1 a2 : Nat) (tb : List Ent) (o q v mk w st : Nat) (lo : Option Nat) (qh : Int32) (szB : Nat) (cs : List Int32) (τ : CS) : Prop := (QS T n b u al tb o q v mk 0 (szB + cs.length) τ ∧ ZK b u nc0 sz0 mk0 σ0 τ ∧ (a1 + PhC τ ≤ PhC σ0 ∧ a2 + PhS τ ≤ PhS σ0) ∧ nc0 ≤ tb.length ∧ sz0 ≤ szB + cs.length ∧ mk0 ≤ mk) ∧ (∀ i, i < cs.length → cdr b τ (szB + i) = cs.getD i 0) ∧ ZF b u w st lo qh τ
theorem Zy_0 (h : QS T n b u al tb o q v mk 0 sz σ) (zf : ZF b u w st lo qh σ) : Zy T n b u al σ tb.length sz mk 0 0 tb o q v mk w st lo qh sz [] σ := ⟨⟨h, ZK_of (XK_r h), ⟨by omega, by omega⟩, Nat.le_refl _, Nat.le_refl _, Nat.le_refl _⟩, fun i hi => absurd hi (Nat.not_lt_zero _), zf⟩
theorem Zy_pp (h : Zy T n b u al σ0 nc0 sz0 mk0 a1 a2 tb o q v mk w st lo qh szB cs τ) : sPp τ = some b := h.1.1.2.2.2.2.1.1
/-- the method ends -/
theorem Zfin {t : α} (h : Zy T n b u al σ0 nc0 sz0 mk0 a1 a2 tb o q v mk w st lo qh szB cs τ) (hs : S t y τ) : ZPo b u nc0 sz0 mk0 (some t) S σ0 a1 a2 ((0, y), τ, (0, 0)) := by
  obtain ⟨⟨h1, h2, h3, h4⟩, _⟩ := h
  refine ⟨fun t' e => by cases e; exact ⟨rfl, hs⟩, fun e => (by cases e), fun _ => ?_, fun e => absurd rfl e, h2⟩
  show a1 + 0 + PhC τ ≤ _ ∧ a2 + 0 + PhS τ ≤ _
  omega
/-- a call within: where it throws all throws -/
theorem zt_callZ {β : Type} {z : Option β} {R : β → Int32 → CS → Prop} {g : Nat → Option RS} {f : Nat → RS → Option RS} (h : Zy T n b u al σ0 nc0 sz0 mk0 a1 a2 tb o q v mk w st lo qh szB cs τ) (t : Tm g (ZPo b u tb.length (szB + cs.length) mk z R τ 0 0)) (hx : (z = none ∧ x = none) ∨ ∃ s, z = some s ∧ C ∧ ∀ (τ' : CS) (ret : Int32) (n1 n2 : Nat), R s ret τ' → ZK b u tb.length (szB + cs.length) mk τ τ' → (a1 + n1 + PhC τ' ≤ PhC σ0 ∧ a2 + n2 + PhS τ' ≤ PhS σ0) → Tm (fun k => f k ((0, ret), τ', (n1, n2))) (ZPo b u nc0 sz0 mk0 x S σ0 (a1 + n1) (a2 + n2))) : Tm (fun k => ox (g k) (f k)) (ZPo b u nc0 sz0 mk0 x S σ0 a1 a2) := by
  obtain ⟨⟨h1, h2, h3, h4, h5, h6⟩, _⟩ := h
  refine Tm_ox t (fun r w nz => ?_) (fun r w e0 => ?_)
  · rcases hx with ⟨e1, e2⟩ | ⟨s, e1, _⟩
    · rw [e2]
      refine ⟨fun t' e => (by cases e), fun _ => w.2.1 e1, fun z => absurd z nz, fun z => ?_, ZK_t h2 w.2.2.2.2 h4 h5 h6⟩
      have y := w.2.2.2.1 z
      omega
    · exact absurd (w.1 s e1).1 nz
  · rcases hx with ⟨e1, e2⟩ | ⟨s, e1, c, cont⟩
    · exact absurd (w.2.1 e1) (by rw [e0]; decide)
    · have y := w.2.2.1 e0
      have k := cont r.2.1 r.1.2 r.2.2.1 r.2.2.2 (w.1 s e1).2 w.2.2.2.2 ⟨by omega, by omega⟩
      have er : ((0, r.1.2), r.2.1, (r.2.2.1, r.2.2.2)) = r := by
        rw [← e0]
      rw [er] at k
      exact Tm_mono k (fun q z => ZPo_s z)
theorem zt_call {β : Type} {z : Option β} {R : β → Int32 → CS → Prop} {g : Nat → Option RS} {f : Nat → RS → Option RS} (h : Zy T n b u al σ0 nc0 sz0 mk0 a1 a2 tb o q v mk w st lo qh szB cs τ) (t : Tm g (QPo b u tb.length (szB + cs.length) mk z R τ 0 0)) (hx : (z = none ∧ x = none) ∨ ∃ s, z = some s ∧ C ∧ ∀ (τ' : CS) (ret : Int32) (n1 n2 : Nat), R s ret τ' → XK b u tb.length (szB + cs.length) mk τ τ' → (a1 + n1 + PhC τ' ≤ PhC σ0 ∧ a2 + n2 + PhS τ' ≤ PhS σ0) → Tm (fun k => f k ((0, ret), τ', (n1, n2))) (ZPo b u nc0 sz0 mk0 x S σ0 (a1 + n1) (a2 + n2))) : Tm (fun k => ox (g k) (f k)) (ZPo b u nc0 sz0 mk0 x S σ0 a1 a2) := by
  obtain ⟨⟨h1, h2, h3, h4, h5, h6⟩, _⟩ := h
  refine Tm_ox t (fun r w nz => ?_) (fun r w e0 => ?_)
  · rcases hx with ⟨e1, e2⟩ | ⟨s, e1, _⟩
    · rw [e2]
      refine ⟨fun t' e => (by cases e), fun _ => w.2.1 e1, fun z => absurd z nz, fun z => ?_, ZK_t h2 (ZK_of w.2.2.2.2) h4 h5 h6⟩
      have y := w.2.2.2.1 z
      omega
    · exact absurd (w.1 s e1).1 nz
  · rcases hx with ⟨e1, e2⟩ | ⟨s, e1, c, cont⟩
    · exact absurd (w.2.1 e1) (by rw [e0]; decide)
    · have y := w.2.2.1 e0
      have k := cont r.2.1 r.1.2 r.2.2.1 r.2.2.2 (w.1 s e1).2 w.2.2.2.2 ⟨by omega, by omega⟩
      have er : ((0, r.1.2), r.2.1, (r.2.2.1, r.2.2.2)) = r := by
        rw [← e0]
      rw [er] at k
      exact Tm_mono k (fun q z => ZPo_s z)
/-- behind a call within that lays code -/
theorem Zy_ca {ll : List Int32} (h : Zy T n b u al σ0 nc0 sz0 mk0 a1 a2 tb o q v mk w st lo qh szB cs τ) {n1 n2 : Nat} {o' v' mk' : Nat} {tb' : List Ent} (hq : QS T n b u al tb' o' q' v' mk' 0 (szB + cs.length + ll.length) τ') (xk : ZK b u tb.length (szB + cs.length) mk τ τ') (c : a1 + n1 + PhC τ' ≤ PhC σ0 ∧ a2 + n2 + PhS τ' ≤ PhS σ0) (hl : ∀ i, i < ll.length → cdr b τ' (szB + cs.length + i) = ll.getD i 0) (h4 : nc0 ≤ tb'.length) (h6 : mk0 ≤ mk') (zf : ZF b u w' st' lo' qh' τ') : Zy T n b u al σ0 nc0 sz0 mk0 (a1 + n1) (a2 + n2) tb' o' q' v' mk' w' st' lo' qh' szB (cs ++ ll) τ' := by
  obtain ⟨⟨h1, h2, h3, g4, g5, g6⟩, k2, _⟩ := h
  refine ⟨⟨by rw [List.length_append, ← Nat.add_assoc]; exact hq, ZK_t h2 xk g4 g5 g6, c, h4, by rw [List.length_append]; omega, h6⟩, fun i hi => ?_, zf⟩
  rw [List.length_append] at hi
  rcases Nat.lt_or_ge i cs.length with w | w
  · have y := (xk.2.2.2.2.2.1 (szB + i) (by omega)).1
    rw [y, k2 i w, gd_l w]
  · have e := hl (i - cs.length) (by omega)
    rw [show szB + cs.length + (i - cs.length) = szB + i from by omega] at e
    rw [e]
    have g := gd_r (a := cs) (b := ll) (i - cs.length)
    rw [show cs.length + (i - cs.length) = i from by omega] at g
    exact g.symm
theorem Zy_c0 (h : Zy T n b u al σ0 nc0 sz0 mk0 a1 a2 tb o q v mk w st lo qh szB cs τ) {n1 n2 : Nat} {o' v' mk' : Nat} {tb' : List Ent} (hq : QS T n b u al tb' o' q' v' mk' 0 (szB + cs.length) τ') (xk : ZK b u tb.length (szB + cs.length) mk τ τ') (c : a1 + n1 + PhC τ' ≤ PhC σ0 ∧ a2 + n2 + PhS τ' ≤ PhS σ0) (h4 : nc0 ≤ tb'.length) (h6 : mk0 ≤ mk') (zf : ZF b u w' st' lo' qh' τ') : Zy T n b u al σ0 nc0 sz0 mk0 (a1 + n1) (a2 + n2) tb' o' q' v' mk' w' st' lo' qh' szB cs τ' := by
  have z := Zy_ca (ll := []) h hq xk c (fun i hi => absurd hi (Nat.not_lt_zero _)) h4 h6 zf
  rw [List.append_nil] at z
  exact z
theorem Zy_cx (h : Zy T n b u al σ0 nc0 sz0 mk0 a1 a2 tb o q v mk w st lo qh szB cs τ) {n1 n2 : Nat} {o' v' mk' : Nat} {tb' : List Ent} (hq : QS T n b u al tb' o' q' v' mk' 0 (szB + cs.length) τ') (xk : XK b u tb.length (szB + cs.length) mk τ τ') (c : a1 + n1 + PhC τ' ≤ PhC σ0 ∧ a2 + n2 + PhS τ' ≤ PhS σ0) (h4 : nc0 ≤ tb'.length) (h6 : mk0 ≤ mk') : Zy T n b u al σ0 nc0 sz0 mk0 (a1 + n1) (a2 + n2) tb' o' q' v' mk' w st lo qh szB cs τ' := Zy_c0 h hq (ZK_of xk) c h4 h6 (ZF_k h.2.2 xk)
theorem Zy_cl {ll : List Int32} (h : Zy T n b u al σ0 nc0 sz0 mk0 a1 a2 tb o q v mk w st lo qh szB cs τ) {n1 n2 : Nat} {o' v' mk' : Nat} {tb' : List Ent} (hq : QS T n b u al tb' o' q' v' mk' 0 (szB + cs.length + ll.length) τ') (xk : XK b u tb.length (szB + cs.length) mk τ τ') (c : a1 + n1 + PhC τ' ≤ PhC σ0 ∧ a2 + n2 + PhS τ' ≤ PhS σ0) (hl : ∀ i, i < ll.length → cdr b τ' (szB + cs.length + i) = ll.getD i 0) (h4 : nc0 ≤ tb'.length) (h6 : mk0 ≤ mk') : Zy T n b u al σ0 nc0 sz0 mk0 (a1 + n1) (a2 + n2) tb' o' q' v' mk' w st lo qh szB (cs ++ ll) τ' := Zy_ca h hq (ZK_of xk) c hl h4 h6 (ZF_k h.2.2 xk)
/-- what is refused is thrown -/
theorem zt_ref {f : Nat → RS → Option RS} (h : Zy T n b u al σ0 nc0 sz0 mk0 a1 a2 tb o q v mk w st lo qh szB cs τ) : Tm (fun k => ox (f_X5_refuse k 0 L τ) (f k)) (ZPo b u nc0 sz0 mk0 (none : Option α) S σ0 a1 a2) := by
  obtain ⟨⟨h1, h2, h3, h4, h5, h6⟩, _⟩ := h
  have z := st_ref (α := α) (S := S) (f := f) (L := L) (Sx_0 h1)
  refine Tm_mono z (fun r w => ⟨fun t' e => (by cases e), fun _ => w.2.1 rfl, fun e => absurd (w.2.1 rfl) (by rw [e]; decide), fun e => ?_, ZK_t h2 (ZK_of w.2.2.2.2) h4 h5 h6⟩)
  have y := w.2.2.2.1 e
  omega
theorem zt_emit {op : Nat} {f : Nat → RS → Option RS} (h : Zy T n b u al σ0 nc0 sz0 mk0 a1 a2 tb o q v mk w st lo qh szB cs τ) (hb : L.2.2.1 0 = b) (h1 : L.1 1 = nI op) (hm : szB + cs.length + 1 ≤ 36864) (cont : ∀ (τ' : CS) (n1 n2 : Nat), Zy T n b u al σ0 nc0 sz0 mk0 (a1 + n1) (a2 + n2) tb o q v mk w st lo qh szB (cs ++ [em op (L.1 2)]) τ' → XK b u tb.length (szB + cs.length) mk τ τ' → Tm (fun k => f k ((0, nI (szB + cs.length)), τ', (n1, n2))) (ZPo b u nc0 sz0 mk0 x S σ0 (a1 + n1) (a2 + n2))) : Tm (fun k => ox (f_X7_emit__P k 0 L τ) (f k)) (ZPo b u nc0 sz0 mk0 x S σ0 a1 a2) := by
  refine Tm_ox (c_emit h.1.1.2.1 hb hm) (fun r w nz => absurd (by rw [w.1]) nz) (fun r w e0 => ?_)
  obtain ⟨w1, ⟨w2, w2'⟩, w3⟩ := w
  rw [h1] at w3
  obtain ⟨q1, q2⟩ := QS_cd h.1.1 w3
  have hc := h.1.2.2.1
  have k := cont r.2.1 r.2.2.1 r.2.2.2 (Zy_cl h q1 q2 ⟨by omega, by omega⟩ w3.2.2.2 h.1.2.2.2.1 h.1.2.2.2.2.2) q2
  have er : ((0, nI (szB + cs.length)), r.2.1, (r.2.2.1, r.2.2.2)) = r := by rw [← w1]
  rw [er] at k
  exact Tm_mono k (fun q z => ZPo_s z)
theorem zt_word {f : Nat → RS → Option RS} (h : Zy T n b u al σ0 nc0 sz0 mk0 a1 a2 tb o q v mk w st lo qh szB cs τ) (hb : L.2.2.1 0 = b) (hm : szB + cs.length + 1 ≤ 36864) (cont : ∀ (τ' : CS) (n1 n2 : Nat), Zy T n b u al σ0 nc0 sz0 mk0 (a1 + n1) (a2 + n2) tb o q v mk w st lo qh szB (cs ++ [L.1 1]) τ' → XK b u tb.length (szB + cs.length) mk τ τ' → Tm (fun k => f k ((0, nI (szB + cs.length)), τ', (n1, n2))) (ZPo b u nc0 sz0 mk0 x S σ0 (a1 + n1) (a2 + n2))) : Tm (fun k => ox (f_X7_word__P k 0 L τ) (f k)) (ZPo b u nc0 sz0 mk0 x S σ0 a1 a2) := by
  refine Tm_ox (c_word h.1.1.2.1 hb hm) (fun r w nz => absurd (by rw [w.1]) nz) (fun r w e0 => ?_)
  obtain ⟨w1, ⟨w2, w2'⟩, w3⟩ := w
  obtain ⟨q1, q2⟩ := QS_cd h.1.1 w3
  have hc := h.1.2.2.1
  have k := cont r.2.1 r.2.2.1 r.2.2.2 (Zy_cl h q1 q2 ⟨by omega, by omega⟩ w3.2.2.2 h.1.2.2.2.1 h.1.2.2.2.2.2) q2
  have er : ((0, nI (szB + cs.length)), r.2.1, (r.2.2.1, r.2.2.2)) = r := by rw [← w1]
  rw [er] at k
  exact Tm_mono k (fun q z => ZPo_s z)
theorem zt_mark {f : Nat → RS → Option RS} (h : Zy T n b u al σ0 nc0 sz0 mk0 a1 a2 tb o q v mk w st lo qh szB cs τ) (hm : mk + 1 ≤ 21504) (cont : ∀ (τ' : CS) (n1 n2 : Nat), Zy T n b u al σ0 nc0 sz0 mk0 (a1 + n1) (a2 + n2) tb o q v (mk + 1) w st lo qh szB cs τ' → XK b u tb.length (szB + cs.length) mk τ τ' → τ'.2.2.1 41 mk = L.1 1 → Tm (fun k => f k ((0, nI mk), τ', (n1, n2))) (ZPo b u nc0 sz0 mk0 x S σ0 (a1 + n1) (a2 + n2))) : Tm (fun k => ox (f_X5_mark k 0 L τ) (f k)) (ZPo b u nc0 sz0 mk0 x S σ0 a1 a2) := by
  refine Tm_ox (c_mark h.1.1.2.2.1 hm) (fun r w nz => absurd (by rw [w.1]) nz) (fun r w e0 => ?_)
  obtain ⟨w1, ⟨w2, w2'⟩, w3⟩ := w
  obtain ⟨q1, q2⟩ := QS_mk h.1.1 w3
  have hc := h.1.2.2.1
  have h6 := h.1.2.2.2.2.2
  have k := cont r.2.1 r.2.2.1 r.2.2.2 (Zy_cx h q1 q2 ⟨by omega, by omega⟩ h.1.2.2.2.1 (by show mk0 ≤ mk + 1; omega)) q2 (w3.2.2.2 0 (by show 0 < 1; decide))
  have er : ((0, nI mk), r.2.1, (r.2.2.1, r.2.2.2)) = r := by rw [← w1]
  rw [er] at k
  exact Tm_mono k (fun q z => ZPo_s z)
theorem zt_opens {f : Nat → RS → Option RS} (h : Zy T n b u al σ0 nc0 sz0 mk0 a1 a2 tb o q v mk w st lo qh szB cs τ) (hx : (¬ (¬ o = 20 ∧ ¬ tkK T n (tkN T n q) = 0) ∧ x = none) ∨ ((¬ o = 20 ∧ ¬ tkK T n (tkN T n q) = 0) ∧ C)) (cont : ∀ (τ' : CS) (ret : Int32) (n1 n2 : Nat), C → Zy T n b u al σ0 nc0 sz0 mk0 (a1 + n1) (a2 + n2) tb (o + 1) (tkN T n q) v mk w st lo qh szB cs τ' → XK b u tb.length (szB + cs.length) mk τ τ' → Tm (fun k => f k ((0, ret), τ', (n1, n2))) (ZPo b u nc0 sz0 mk0 x S σ0 (a1 + n1) (a2 + n2))) : Tm (fun k => ox (f_X5_opens k 0 L τ) (f k)) (ZPo b u nc0 sz0 mk0 x S σ0 a1 a2) := by
  rcases hx with ⟨w1, w2⟩ | ⟨w1, c⟩
  · exact zt_call (C := True) h (c_opensQ h.1.1 (Or.inl ⟨w1, rfl⟩)) (Or.inl ⟨rfl, w2⟩)
  · exact zt_call (C := C) h (c_opensQ h.1.1 (Or.inr ⟨w1, rfl⟩)) (Or.inr ⟨_, rfl, c, fun τ' ret n1 n2 hq xk hc => cont τ' ret n1 n2 c (Zy_cx h hq xk hc h.1.2.2.2.1 h.1.2.2.2.2.2) xk⟩)
theorem zt_closes {f : Nat → RS → Option RS} (h : Zy T n b u al σ0 nc0 sz0 mk0 a1 a2 tb (o + 1) q v mk w st lo qh szB cs τ) (hk : tkV kk) (h1 : L.1 1 = cKd kk) (hx : (¬ (tkK T n q = kk ∧ ¬ tkK T n (tkN T n q) = 0) ∧ x = none) ∨ ((tkK T n q = kk ∧ ¬ tkK T n (tkN T n q) = 0) ∧ C)) (cont : ∀ (τ' : CS) (ret : Int32) (n1 n2 : Nat), C → Zy T n b u al σ0 nc0 sz0 mk0 (a1 + n1) (a2 + n2) tb o (tkN T n q) v mk w st lo qh szB cs τ' → XK b u tb.length (szB + cs.length) mk τ τ' → Tm (fun k => f k ((0, ret), τ', (n1, n2))) (ZPo b u nc0 sz0 mk0 x S σ0 (a1 + n1) (a2 + n2))) : Tm (fun k => ox (f_X5_closes k 0 L τ) (f k)) (ZPo b u nc0 sz0 mk0 x S σ0 a1 a2) := by
  rcases hx with ⟨w1, w2⟩ | ⟨w1, c⟩
  · exact zt_call (C := True) h (c_closesQ h.1.1 hk h1 (Or.inl ⟨w1, rfl⟩)) (Or.inl ⟨rfl, w2⟩)
  · exact zt_call (C := C) h (c_closesQ h.1.1 hk h1 (Or.inr ⟨w1, rfl⟩)) (Or.inr ⟨_, rfl, c, fun τ' ret n1 n2 hq xk hc => cont τ' ret n1 n2 c (Zy_cx h hq xk hc h.1.2.2.2.1 h.1.2.2.2.2.2) xk⟩)
theorem zt_expect {f : Nat → RS → Option RS} (h : Zy T n b u al σ0 nc0 sz0 mk0 a1 a2 tb o q v mk w st lo qh szB cs τ) (hk : tkV kk) (h1 : L.1 1 = cKd kk) (hx : (¬ (tkK T n q = kk ∧ ¬ tkK T n (tkN T n q) = 0) ∧ x = none) ∨ ((tkK T n q = kk ∧ ¬ tkK T n (tkN T n q) = 0) ∧ C)) (cont : ∀ (τ' : CS) (ret : Int32) (n1 n2 : Nat), C → Zy T n b u al σ0 nc0 sz0 mk0 (a1 + n1) (a2 + n2) tb o (tkN T n q) v mk w st lo qh szB cs τ' → XK b u tb.length (szB + cs.length) mk τ τ' → Tm (fun k => f k ((0, ret), τ', (n1, n2))) (ZPo b u nc0 sz0 mk0 x S σ0 (a1 + n1) (a2 + n2))) : Tm (fun k => ox (f_X5_expect k 0 L τ) (f k)) (ZPo b u nc0 sz0 mk0 x S σ0 a1 a2) := by
  rcases hx with ⟨w1, w2⟩ | ⟨w1, c⟩
  · exact zt_call (C := True) h (c_expectQ h.1.1 hk h1 (Or.inl ⟨w1, rfl⟩)) (Or.inl ⟨rfl, w2⟩)
  · exact zt_call (C := C) h (c_expectQ h.1.1 hk h1 (Or.inr ⟨w1, rfl⟩)) (Or.inr ⟨_, rfl, c, fun τ' ret n1 n2 hq xk hc => cont τ' ret n1 n2 c (Zy_cx h hq xk hc h.1.2.2.2.1 h.1.2.2.2.2.2) xk⟩)
theorem zt_want {f : Nat → RS → Option RS} (h : Zy T n b u al σ0 nc0 sz0 mk0 a1 a2 tb o q v mk w st lo qh szB cs τ) (hk : tkV kk) (h1 : L.1 1 = cKd kk) (hx : (¬ tkK T n q = kk ∧ x = none) ∨ (tkK T n q = kk ∧ C)) (cont : ∀ (ret : Int32) (n1 n2 : Nat), C → Zy T n b u al σ0 nc0 sz0 mk0 (a1 + n1) (a2 + n2) tb o q v mk w st lo qh szB cs τ → Tm (fun k => f k ((0, ret), τ, (n1, n2))) (ZPo b u nc0 sz0 mk0 x S σ0 (a1 + n1) (a2 + n2))) : Tm (fun k => ox (f_X5_want k 0 L τ) (f k)) (ZPo b u nc0 sz0 mk0 x S σ0 a1 a2) := by
  rcases hx with ⟨w1, w2⟩ | ⟨w1, c⟩
  · exact zt_call (C := True) h (c_wantQ h.1.1 hk h1 (Or.inl ⟨w1, rfl⟩)) (Or.inl ⟨rfl, w2⟩)
  · exact zt_call (C := C) h (c_wantQ h.1.1 hk h1 (Or.inr ⟨w1, rfl⟩)) (Or.inr ⟨_, rfl, c, fun τ' ret n1 n2 hq xk hc => by
      subst hq
      exact cont ret n1 n2 c (Zy_cx h h.1.1 xk hc h.1.2.2.2.1 h.1.2.2.2.2.2)⟩)
theorem c_advX (h1 : QS T n b u al tb o q v mk p sz τ) {x : Option Nat} (hx : (tkK T n (tkN T n q) = 0 ∧ x = none) ∨ (¬ tkK T n (tkN T n q) = 0 ∧ x = some (tkN T n q))) : Tm (fun k => f_X2_advance k 0 L τ) (QPo b u tb.length sz mk x (fun q' _ τ' => QS T n b u al tb o q' v mk p sz τ') τ 0 0) := by
  refine Tm_mono (c_advQ h1) (fun r w => ?_)
  obtain ⟨w1, w2, w3, w4⟩ := w
  rcases hx with ⟨e1, e2⟩ | ⟨e1, e2⟩
  · have z := w1 e1
    refine ⟨fun t e => (by rw [e2] at e; cases e), fun _ => z, fun e => absurd e (by rw [z]; decide), fun e => ?_, w4⟩
    have y := w3.2 e
    omega
  · obtain ⟨z1, z2⟩ := w2 e1
    refine ⟨fun t e => by rw [e2] at e; cases e; exact ⟨z1, z2⟩, fun e => (by rw [e2] at e; cases e), fun e => ?_, fun e => absurd z1 e, w4⟩
    have y := w3.1 e
    have y1 := y.1
    have y2 := y.2
    omega
theorem zt_adv {f : Nat → RS → Option RS} (h : Zy T n b u al σ0 nc0 sz0 mk0 a1 a2 tb o q v mk w st lo qh szB cs τ) (hx : (tkK T n (tkN T n q) = 0 ∧ x = none) ∨ (¬ tkK T n (tkN T n q) = 0 ∧ C)) (cont : ∀ (τ' : CS) (ret : Int32) (n1 n2 : Nat), C → Zy T n b u al σ0 nc0 sz0 mk0 (a1 + n1) (a2 + n2) tb o (tkN T n q) v mk w st lo qh szB cs τ' → XK b u tb.length (szB + cs.length) mk τ τ' → Tm (fun k => f k ((0, ret), τ', (n1, n2))) (ZPo b u nc0 sz0 mk0 x S σ0 (a1 + n1) (a2 + n2))) : Tm (fun k => ox (f_X2_advance k 0 L τ) (f k)) (ZPo b u nc0 sz0 mk0 x S σ0 a1 a2) := by
  rcases hx with ⟨w1, w2⟩ | ⟨w1, c⟩
  · exact zt_call (C := True) h (c_advX h.1.1 (Or.inl ⟨w1, rfl⟩)) (Or.inl ⟨rfl, w2⟩)
  · exact zt_call (C := C) h (c_advX h.1.1 (Or.inr ⟨w1, rfl⟩)) (Or.inr ⟨_, rfl, c, fun τ' ret n1 n2 hq xk hc => cont τ' ret n1 n2 c (Zy_cx h hq xk hc h.1.2.2.2.1 h.1.2.2.2.2.2) xk⟩)
/-- an exp within -/
theorem zt_exp {f : Nat} {f' : Nat → RS → Option RS} {bt : BT} {z : Option RT} (h : Zy T n b u al σ0 nc0 sz0 mk0 a1 a2 tb o q v mk w st lo qh szB cs τ) (ev : EvX E b u al gl Vm tb τ) (bd : BdX n o q v mk 0 (szB + cs.length) tb.length) (h1 : L.1 1 = 0) (hG : G T n f 0 E o q v 0 0 0 0 bt = some z) (hx : (z = none ∧ x = none) ∨ ∃ s, z = some s ∧ C) (cont : ∀ (τ' : CS) (ret : Int32) (n1 n2 : Nat) (r : RT) (ll : List Int32), z = some r → C → Zy T n b u al σ0 nc0 sz0 mk0 (a1 + n1) (a2 + n2) tb o r.1 r.2.1 mk w st lo qh szB (cs ++ ll) τ' → XK b u tb.length (szB + cs.length) mk τ τ' → Sgm u 0 gl Vm 1 ll → 2 * ll.length ≤ 3 * (r.1 - q) + 1 → q < r.1 → v ≤ r.2.1 → TgI T n u 0 gl Vm tb q (szB + cs.length) mk ll r.2.2.1 τ' → Tm (fun k => f' k ((0, ret), τ', (n1, n2))) (ZPo b u nc0 sz0 mk0 x S σ0 (a1 + n1) (a2 + n2))) : Tm (fun k => ox (f_X5_exp k 0 L τ) (f' k)) (ZPo b u nc0 sz0 mk0 x S σ0 a1 a2) := by
  refine zt_call (C := C) h (px_all f 400 0 0 (Or.inl ⟨rfl, rfl⟩) E o q v bt z hG gl Vm tb mk 0 (szB + cs.length) τ L h.1.1 ev bd h1 (by omega)) ?_
  rcases hx with ⟨w1, w2⟩ | ⟨s, w1, c⟩
  · exact Or.inl ⟨w1, w2⟩
  · refine Or.inr ⟨s, w1, c, fun τ' ret n1 n2 hr xk hc => ?_⟩
    obtain ⟨ll, r1, r2, r3, r4, r5, r6, r7⟩ := hr
    exact cont τ' ret n1 n2 s ll w1 c (Zy_cl h r1 xk hc r2 h.1.2.2.2.1 h.1.2.2.2.2.2) xk r3 r4 r5 r6 r7
/-- PUSH om -/
theorem zt_push {f : Nat → RS → Option RS} (h : Zy T n b u al σ0 nc0 sz0 mk0 a1 a2 tb o q v mk w st lo qh szB cs τ) (hv : LitG (L.1 1)) (hm : szB + cs.length + 2 ≤ 36864) (cont : ∀ (τ' : CS) (ret : Int32) (n1 n2 : Nat), Zy T n b u al σ0 nc0 sz0 mk0 (a1 + n1) (a2 + n2) tb o q v mk w st lo qh szB (cs ++ [em 32 0, L.1 1]) τ' → XK b u tb.length (szB + cs.length) mk τ τ' → Tm (fun k => f k ((0, ret), τ', (n1, n2))) (ZPo b u nc0 sz0 mk0 x S σ0 (a1 + n1) (a2 + n2))) : Tm (fun k => ox (f_X5_push k 0 L τ) (f k)) (ZPo b u nc0 sz0 mk0 x S σ0 a1 a2) := by
  refine zt_call (C := True) h (c_pushQ h.1.1 hv hm) (Or.inr ⟨(), rfl, trivial, fun τ' ret n1 n2 hr xk hc => ?_⟩)
  obtain ⟨l2, r1, r2, r3, r4⟩ := hr
  subst r4
  exact cont τ' ret n1 n2 (Zy_cl h r2 xk hc r3 h.1.2.2.2.1 h.1.2.2.2.2.2) xk
/-- the state alone, as if it began here -/
theorem Sy_z (h : Zy T n b u al σ0 nc0 sz0 mk0 a1 a2 tb o q v mk w st lo qh szB cs τ) : Sy T n b u al τ tb.length szB mk 0 0 tb o q v mk 0 szB cs τ := by
  obtain ⟨⟨h1, h2, h3, h4, h5, h6⟩, h7, h8⟩ := h
  refine ⟨⟨h1, ?_, ⟨by omega, by omega⟩, Nat.le_refl _, Nat.le_add_right _ _, Nat.le_refl _⟩, h7⟩
  have z := XK_r h1
  obtain ⟨d1, d2, d3, d4, d5, d6, d7, d8, d9⟩ := z
  exact ⟨d1, d2, d3, d4, d5, fun i hi => ⟨rfl, rfl⟩, d7, ⟨by omega, d8.2⟩, d9⟩
/-- and back: what a piece without statements of its own did -/
theorem Zy_s {n1 n2 o' v' mk' : Nat} {tb' : List Ent} (h : Zy T n b u al σ0 nc0 sz0 mk0 a1 a2 tb o q v mk w st lo qh szB cs τ) (s : Sy T n b u al τ tb.length szB mk n1 n2 tb' o' q' v' mk' 0 szB cs' τ') (h0 : sz0 ≤ szB) : Zy T n b u al σ0 nc0 sz0 mk0 (a1 + n1) (a2 + n2) tb' o' q' v' mk' w st lo qh szB cs' τ' := by
  obtain ⟨⟨h1, h2, h3, h4, h5, h6⟩, h7, h8⟩ := h
  obtain ⟨⟨s1, s2, s3, s4, s5, s6⟩, s7⟩ := s
  exact ⟨⟨s1, ZK_t h2 (ZK_of s2) h4 h0 h6, ⟨by omega, by omega⟩, by omega, by omega, by omega⟩, s7, ZF_k h8 s2⟩
/-- fields of the parser's own are set -/
theorem QS_g (h : QS T n b u al tb o q v mk p sz σ) {o' mk' p' : Nat} (f1 : ∀ j, ¬ (j = 404 ∨ (4005 ≤ j ∧ j ≤ 4020) ∨ j = fP b 3 ∨ j = fP b 19) → σ'.1 j = σ.1 j) (f2 : σ'.2 = σ.2) (e5 : σ'.1 4005 = nI o') (ho : o' ≤ 20) (e11 : σ'.1 4011 = nI mk') (hm : mk' ≤ mk) (e19 : σ'.1 (fP b 19) = nI p') : QS T n b u al tb o' q v mk' p' sz σ' ∧ ZK b u tb.length sz mk' σ σ' := by
  obtain ⟨h1, h2, h3, h4, ⟨h5, h5', h5''⟩, ⟨h6, h6'⟩, ⟨h7, h7'⟩, h8⟩ := h
  have fc1 := fP_c b 1
  have fc2 := fP_c b 11
  have fc3 := fP_c b 19
  have fc4 := fP_c b 3
  have n1 := fP_ne b (i := 1) (j := 3) (by decide)
  have n2 := fP_ne b (i := 1) (j := 19) (by decide)
  have n3 := fP_ne b (i := 11) (j := 3) (by decide)
  have n4 := fP_ne b (i := 11) (j := 19) (by decide)
  have sn : ∀ k, sN σ' k = sN σ k := fun k => by show σ'.2.2.2.2.1 k = _; rw [f2]
  have kd : ∀ c, sKd σ' c = sKd σ c := fun c => by show σ'.2.2.2.2.2.1.2.2.2.2 c = _; rw [f2]
  have cl := CdL_s h2 (f1 _ (by omega)) (kd b) ⟨sn 43, sn 51⟩
  have m3 := h3.2
  refine ⟨⟨LxQ_s h1 (fun j _ hj => f1 j (by omega)) (by rw [f2]; exact ⟨rfl, rfl⟩) (by rw [f2]) (sn 38) (by rw [f2]), cl, ⟨e11, by rw [sn]; omega, by rw [sn]; exact m3.2⟩, TbR_s h4 (f1 _ (by omega)) (by rw [f2]) (by rw [f2]) (by rw [f2]) (by rw [f2]) (by rw [f2]) (by rw [f2]), ⟨by show σ'.2.2.2.2.2.1.2.2.2.1 = _; rw [f2]; exact h5, by rw [f1 _ (by omega)]; exact h5', by rw [f1 _ (by omega)]; exact h5''⟩, ⟨e5, ho⟩, ⟨by rw [f2]; exact h7, h7'⟩, e19⟩, ?_⟩
  refine ⟨⟨fun j hj => f1 j (by omega), fun j _ => by rw [f2]⟩, ⟨fun k hk => by rw [f2], fun k hk => sn k, fun k _ => by rw [f2]⟩, ⟨⟨by show σ'.2.2.2.2.2.1.1 = _; rw [f2], by show σ'.2.2.2.2.2.1.2.1 = _; rw [f2], by show σ'.2.2.2.2.2.1.2.2.1 = _; rw [f2], by show σ'.2.2.2.2.2.1.2.2.2.1 = _; rw [f2]⟩, fun c _ => kd c, by rw [f2]⟩, fun i _ => by rw [f2]; exact ⟨rfl, rfl⟩, fun i hi => by rw [f2]; exact ⟨⟨rfl, rfl⟩, ⟨rfl, rfl⟩, rfl, rfl⟩, fun i _ => ⟨?_, ?_⟩, fun i _ => by rw [f2], cl.2, ⟨by rw [sn]; omega, by rw [sn]; exact m3.2⟩, Or.inl (sn 42)⟩
  · show σ'.2.2.1 (pR0 (sKd σ' b)) i = _; rw [kd b, f2]
  · show σ'.2.2.1 (pR0 (sKd σ' (!b))) i = _; rw [kd (!b), f2]
theorem Zy_g {mk' : Nat} (h : Zy T n b u al σ0 nc0 sz0 mk0 a1 a2 tb o q v mk w st lo qh szB cs τ) (f1 : ∀ j, ¬ ((4006 ≤ j ∧ j ≤ 4020) ∨ j = fP b 3) → τ'.1 j = τ.1 j) (f2 : τ'.2 = τ.2) (e11 : τ'.1 4011 = nI mk') (hm : mk' ≤ mk) (h0 : mk0 ≤ mk') (zf : ZF b u w' st' lo' qh' τ') : Zy T n b u al σ0 nc0 sz0 mk0 a1 a2 tb o q v mk' w' st' lo' qh' szB cs τ' := by
  obtain ⟨⟨h1, h2, h3, h4, h5, h6⟩, h7, h8⟩ := h
  have ph := Ph_s (σ := τ) (σ' := τ') (by rw [f2])
  have n4 := fP_ne b (i := 19) (j := 3) (by decide)
  have fc3 := fP_c b 19
  have fc4 := fP_c b 3
  obtain ⟨q1, q2⟩ := QS_g (p' := 0) (o' := o) h1 (fun j hj => f1 j (by omega)) f2 (by rw [f1 _ (by omega)]; exact h1.2.2.2.2.2.1.1) h1.2.2.2.2.2.1.2 e11 hm (by rw [f1 _ (by omega)]; exact h1.2.2.2.2.2.2.2)
  refine ⟨⟨q1, ZK_t h2 q2 h4 h5 h0, ⟨by omega, by omega⟩, h4, h5, h0⟩, fun i hi => ?_, zf⟩
  have kd : sKd τ' b = sKd τ b := by show τ'.2.2.2.2.2.1.2.2.2.2 b = _; rw [f2]
  show τ'.2.2.1 (pR0 (sKd τ' b)) (szB + i) = _
  rw [kd, f2]
  exact h7 i hi
end CXA
