/-! Statements: the grammar GS over G, with what the reference lays of them (how many, up, place). -/
/-- statements, what each lies in, where each begins -/
abbrev SB := Nat × (Nat → Int32) × (Nat → Int32)
/-- the next token, variables, the statement's number, node (or the first of a list, 0: none), what is laid, statements -/
abbrev ST := Nat × Nat × Nat × Nat × BT × SB
abbrev SR := Option (Option ST)
def hb (x : SR) (k : ST → SR) : SR := match x with
  | none => none
  | some none => some none
  | some (some r) => k r
def lb (x : RG) (k : RT → SR) : SR := match x with
  | none => none
  | some none => some none
  | some (some r) => k r
def hT (T : Nat → Int32) (n q : Nat) (k : Nat → SR) : SR := if tkK T n (tkN T n q) = 0 then some none else k (tkN T n q)
def hW (T : Nat → Int32) (n t q : Nat) (k : Nat → SR) : SR := if tkK T n q = t then hT T n q k else some none
/-- end ; -/
def hE (T : Nat → Int32) (n q : Nat) (k : Nat → SR) : SR := hW T n 38 q (fun q1 => hW T n 13 q1 k)
def sUp (s : SB) (i : Nat) (x : Int32) : SB := (s.1, upd s.2.1 i x, s.2.2)
def sPl (s : SB) (i : Nat) (x : Int32) : SB := (s.1, s.2.1, upd s.2.2 i x)
def sMo (s : SB) : SB := (s.1 + 1, s.2)
abbrev isBE (k : Nat) : Prop := k = 25 ∨ k = 38 ∨ k = 41 ∨ k = 42
abbrev isSt (k : Nat) : Prop := k = 26 ∨ k = 10 ∨ k = 39 ∨ k = 43 ∨ k = 45 ∨ (49 ≤ k ∧ k ≤ 56)
abbrev isOp (k : Nat) : Prop := k = 39 ∨ k = 43 ∨ k = 45 ∨ k = 10
def lif (s : SB) (r : RT) : SR := some (some (r.1, r.2.1, 0, r.2.2.2.1, r.2.2.2.2.1, s))
/-- 0 a block within pe (first i, last l), 1 a statement, 2 ifs, 3 the branches of an if (its node i, last l), 4 whiles, 5 fors; lp: loops around -/
def GS (T : Nat → Int32) (n : Nat) (MD : Nat → Nat → Nat) : Nat → Nat → En → Nat → Nat → Nat → Nat → Int32 → Nat → Nat → BT → SB → SR
  | 0, _, _, _, _, _, _, _, _, _, _, _ => none
  | f + 1, nt, E, lp, o, q, v, pe, i, l, b, s => match nt with
    | 0 => if isBE (tkK T n q) then some (some (q, v, 0, i, b, s)) else hb (GS T n MD f 1 E lp o q v 0 0 0 b s) (fun r => GS T n MD f 0 E lp o r.1 r.2.1 pe (fst2 i r.2.2.2.1) r.2.2.2.1 (bLnk i l r.2.2.2.1 r.2.2.2.2.1) (sUp r.2.2.2.2.2 r.2.2.1 pe))
    | 1 => if ¬ isSt (tkK T n q) ∨ (isOp (tkK T n q) ∧ o = 20) ∨ s.1 = 400 then some none
      else hb (if tkK T n q = 26 then lb (gBg T n f MD E o q v b) (lif (sMo s))
        else if tkK T n q = 10 then lb (gPa T n f E o q v b) (lif (sMo s))
        else if tkK T n q = 39 then GS T n MD f 2 E lp o q v 0 0 0 b (sMo s)
        else if tkK T n q = 43 then GS T n MD f 4 E lp o q v 0 0 0 b (sMo s)
        else if tkK T n q = 45 then GS T n MD f 5 E lp o q v 0 0 0 b (sMo s)
        else lb (gSm T n f lp E o q v b) (lif (sMo s)))
        (fun r => some (some (r.1, r.2.1, s.1, r.2.2.2.1, bSet r.2.2.2.2.1 8 r.2.2.2.1 (nI s.1), sPl r.2.2.2.2.2 s.1 (nI q))))
    | 2 => hT T n q (fun q1 => hb (GS T n MD f 3 E lp (o + 1) q1 v 0 b.1 0 (bNode b 46 (-1) 0 0) s) (fun r =>
        hb (if tkK T n r.1 = 42 then hT T n r.1 (fun q2 => hb (GS T n MD f 0 E lp (o + 1) q2 r.2.1 (nI b.1) 0 0 r.2.2.2.2.1 r.2.2.2.2.2) (fun t => some (some (t.1, t.2.1, 0, 0, bSet (bNode t.2.2.2.2.1 33 (-2) (hd t.2.2.2.1) 0) 9 r.2.2.2.1 (nI t.2.2.2.2.1.1), t.2.2.2.2.2)))) else some (some r))
          (fun t => hE T n t.1 (fun q3 => some (some (q3, t.2.1, 0, b.1, t.2.2.2.2.1, t.2.2.2.2.2))))))
    | 3 => hb (if l = 0 ∧ tkK T n q = 63 then hT T n q (fun q1 => some (some (q1, v, 0, 0, b, s))) else lb (G T n f 0 E o q v 0 0 0 0 b) (fun r => some (some (r.1, r.2.1, 0, r.2.2.2.1, r.2.2.2.2.1, s))))
        (fun c => hW T n 40 c.1 (fun q2 => hb (GS T n MD f 0 E lp o q2 c.2.1 (nI i) 0 0 c.2.2.2.2.1 s) (fun t =>
          let b2 := bNode t.2.2.2.2.1 33 (if c.2.2.2.1 = 0 then -3 else nI c.2.2.2.1) (hd t.2.2.2.1) 0
          let m := t.2.2.2.2.1.1
          let b3 := if l = 0 then bSet b2 5 i (nI m) else bSet b2 9 l (nI m)
          if tkK T n t.1 = 41 then hT T n t.1 (fun q3 => GS T n MD f 3 E lp o q3 t.2.1 0 i m b3 t.2.2.2.2.2) else some (some (t.1, t.2.1, 0, m, b3, t.2.2.2.2.2)))))
    | 4 => hT T n q (fun q1 => lb (G T n f 0 E (o + 1) q1 v 0 0 0 0 (bNode b 47 0 0 0)) (fun r => hW T n 44 r.1 (fun q2 => hb (GS T n MD f 0 E (lp + 1) (o + 1) q2 r.2.1 (nI b.1) 0 0 (bSet r.2.2.2.2.1 5 b.1 (nI r.2.2.2.1)) s) (fun t =>
        hE T n t.1 (fun q3 => some (some (q3, t.2.1, 0, b.1, bSet t.2.2.2.2.1 6 b.1 (hd t.2.2.2.1), t.2.2.2.2.2)))))))
    | 5 => hT T n q (fun q1 => lb (G T n f 17 E (o + 1) q1 v 0 0 E.2.2.1.length 1 (bNode b 48 0 (-1) 0)) (fun r =>
        hb (if tkK T n r.1 = 15 then hT T n r.1 (fun q2 => lb (G T n f 0 (seeN E r.2.2.2.2.2) (o + 1) q2 r.2.1 0 0 0 0 (bSet r.2.2.2.2.1 5 b.1 (nI r.2.2.2.1))) (fun t => some (some (t.1, t.2.1, 0, 0, bSet t.2.2.2.2.1 6 b.1 (nI t.2.2.2.1), s)))) else some (some (r.1, r.2.1, 0, 0, bSet r.2.2.2.2.1 5 b.1 (nI r.2.2.2.1), s)))
          (fun c => hW T n 44 c.1 (fun q3 => hb (GS T n MD f 0 (seeN E r.2.2.2.2.2) (lp + 1) (o + 1) q3 c.2.1 (nI b.1) 0 0 c.2.2.2.2.1 s) (fun t =>
            hE T n t.1 (fun q4 => some (some (q4, t.2.1, 0, b.1, bSet t.2.2.2.2.1 7 b.1 (hd t.2.2.2.1), t.2.2.2.2.2))))))))
    | _ => some none
theorem hb_any {x : SR} {k : ST → SR} {y : Option ST} (h : hb x k = some y) : (x = some none ∧ y = none) ∨ ∃ s, x = some (some s) ∧ k s = some y := by
  cases x with
  | none => exact absurd h (by intro h; cases h)
  | some z => cases z with
    | none => exact Or.inl ⟨rfl, (Option.some.inj h).symm⟩
    | some s => exact Or.inr ⟨s, rfl, h⟩
theorem lb_any {x : RG} {k : RT → SR} {y : Option ST} (h : lb x k = some y) : (x = some none ∧ y = none) ∨ ∃ s, x = some (some s) ∧ k s = some y := by
  cases x with
  | none => exact absurd h (by intro h; cases h)
  | some z => cases z with
    | none => exact Or.inl ⟨rfl, (Option.some.inj h).symm⟩
    | some s => exact Or.inr ⟨s, rfl, h⟩
theorem hT_any {T : Nat → Int32} {n q : Nat} {k : Nat → SR} {y : Option ST} (h : hT T n q k = some y) : (tkK T n (tkN T n q) = 0 ∧ y = none) ∨ (¬ tkK T n (tkN T n q) = 0 ∧ k (tkN T n q) = some y) := by
  unfold hT at h
  by_cases c : tkK T n (tkN T n q) = 0
  · rw [if_pos c] at h; exact Or.inl ⟨c, (Option.some.inj h).symm⟩
  · rw [if_neg c] at h; exact Or.inr ⟨c, h⟩
theorem hW_any {T : Nat → Int32} {n t q : Nat} {k : Nat → SR} {y : Option ST} (h : hW T n t q k = some y) : (¬ (tkK T n q = t ∧ ¬ tkK T n (tkN T n q) = 0) ∧ y = none) ∨ ((tkK T n q = t ∧ ¬ tkK T n (tkN T n q) = 0) ∧ k (tkN T n q) = some y) := by
  unfold hW at h
  by_cases c : tkK T n q = t
  · rw [if_pos c] at h
    rcases hT_any h with ⟨a, b⟩ | ⟨a, b⟩
    · exact Or.inl ⟨fun z => z.2 a, b⟩
    · exact Or.inr ⟨⟨c, a⟩, b⟩
  · rw [if_neg c] at h; exact Or.inl ⟨fun z => c z.1, (Option.some.inj h).symm⟩
section STM
variable {T : Nat → Int32} {n : Nat} {E : En} {o q v M P w lp : Nat} {b : BT} {s : SB} {MD : Nat → Nat → Nat} {σ : MS}
/-- the state at a statement -/
def PZ (T : Nat → Int32) (n : Nat) (MD : Nat → Nat → Nat) (E : En) (lp o q v : Nat) (b : BT) (s : SB) (σ : MS) : Prop := PS T n E o q v b σ ∧ PMs σ E MD ∧ (σ.1 45 = nI lp ∧ lp ≤ o) ∧ σ.1 44 = nI s.1 ∧ s.1 ≤ 400 ∧ (∀ i, σ.2.2 10 i = s.2.1 i ∧ σ.2.2 11 i = s.2.2 i)
theorem PZ_fr {o' q' v' : Nat} {b' : BT} {τ : MS} (h : PZ T n MD E lp o q v b s σ) (hS : PS T n E o' q' v' b' τ) (hF : FrM M P w σ τ) (ho : o ≤ o') : PZ T n MD E lp o' q' v' b' s τ := by
  obtain ⟨_, h2, h3, h4, h5, h6⟩ := h
  refine ⟨hS, PMs_fr h2 hF, ?_, ?_, h5, ?_⟩
  · rw [hF.1 45 (by decide)]; exact ⟨h3.1, by omega⟩
  · rw [hF.1 44 (by decide)]; exact h4
  · rw [hF.2.2.1 10 (by decide), hF.2.2.1 11 (by decide)]; exact h6
theorem p_isBE (h : PS T n E o q v b σ) (L : Nat → Int32) : Tm (fun k => x_isBlockEnd k 0 L σ) (fun r => r.2 = σ ∧ (¬ r.1 = 0 ↔ isBE (tkK T n q))) := by
  have hc := cur_kind (PS_cur h)
  have yes : ∀ L : Nat → Int32, isBE (tkK T n q) → Tm (fun k => x_isBlockEnd k 1 L σ) (fun r => r.2 = σ ∧ (¬ r.1 = 0 ↔ isBE (tkK T n q))) := fun L hy => by
    refine Tm_suc (fun k => by rw [x_isBlockEnd]) ?_
    refine Tm_suc (fun k => by rw [x_isBlockEnd]) ?_
    rw [upd_same]
    exact Tm_chk (Or.inr rfl) (Tm_some ⟨rfl, fun _ => hy, fun _ => (by decide : ¬ (1 : Int32) = 0)⟩)
  have no : ∀ L : Nat → Int32, ¬ isBE (tkK T n q) → Tm (fun k => x_isBlockEnd k 2 L σ) (fun r => r.2 = σ ∧ (¬ r.1 = 0 ↔ isBE (tkK T n q))) := fun L hy => by
    refine Tm_suc (fun k => by rw [x_isBlockEnd]) ?_
    refine Tm_suc (fun k => by rw [x_isBlockEnd]) ?_
    rw [upd_same]
    exact Tm_chk (Or.inl rfl) (Tm_some ⟨rfl, fun z => absurd rfl z, fun z => absurd z hy⟩)
  refine Tm_suc (fun k => by rw [x_isBlockEnd]) ?_
  refine Tm_ite (fun z => yes _ (Or.inl (hc.1.mp z))) (fun z0 => ?_)
  refine Tm_ob (p_word h (s := 6) (by decide) rfl) (fun r1 hr1 => ?_)
  obtain ⟨u, τ⟩ := r1
  obtain ⟨h3, hr1⟩ := hr1
  have h3 : τ = σ := h3
  subst h3
  refine Tm_ite (fun z1 => ?_) (fun z => yes _ (Or.inr (Or.inl (hr1.mp z))))
  refine Tm_ob (p_word h (s := 9) (by decide) rfl) (fun r2 hr2 => ?_)
  obtain ⟨u2, ρ2⟩ := r2
  obtain ⟨h3, hr2⟩ := hr2
  have h3 : ρ2 = τ := h3
  subst h3
  refine Tm_ite (fun z2 => ?_) (fun z => yes _ (Or.inr (Or.inr (Or.inl (hr2.mp z)))))
  refine Tm_ob (p_word h (s := 10) (by decide) rfl) (fun r4 hr4 => ?_)
  obtain ⟨u4, ρ4⟩ := r4
  obtain ⟨h3, hr4⟩ := hr4
  have h3 : ρ4 = ρ2 := h3
  subst h3
  refine Tm_ite (fun z3 => ?_) (fun z => yes _ (Or.inr (Or.inr (Or.inr (hr4.mp z)))))
  refine no _ (fun y => ?_)
  rcases y with y | y | y | y
  · exact z0 (hc.1.mpr y)
  · exact hr1.mpr y z1
  · exact hr2.mpr y z2
  · exact hr4.mpr y z3
theorem p_isSt (h : PS T n E o q v b σ) (L : Nat → Int32) : Tm (fun k => x_isStatement k 0 L σ) (fun r => r.2 = σ ∧ (¬ r.1 = 0 ↔ isSt (tkK T n q))) := by
  have hc := cur_kind (PS_cur h)
  have hw := cur_what (PS_cur h)
  have yes : ∀ L : Nat → Int32, isSt (tkK T n q) → Tm (fun k => x_isStatement k 1 L σ) (fun r => r.2 = σ ∧ (¬ r.1 = 0 ↔ isSt (tkK T n q))) := fun L hy => by
    refine Tm_suc (fun k => by rw [x_isStatement]) ?_
    refine Tm_suc (fun k => by rw [x_isStatement]) ?_
    rw [upd_same]
    exact Tm_chk (Or.inr rfl) (Tm_some ⟨rfl, fun _ => hy, fun _ => (by decide : ¬ (1 : Int32) = 0)⟩)
  have no : ∀ L : Nat → Int32, ¬ isSt (tkK T n q) → Tm (fun k => x_isStatement k 2 L σ) (fun r => r.2 = σ ∧ (¬ r.1 = 0 ↔ isSt (tkK T n q))) := fun L hy => by
    refine Tm_suc (fun k => by rw [x_isStatement]) ?_
    refine Tm_suc (fun k => by rw [x_isStatement]) ?_
    rw [upd_same]
    exact Tm_chk (Or.inl rfl) (Tm_some ⟨rfl, fun z => absurd rfl z, fun z => absurd z hy⟩)
  refine Tm_suc (fun k => by rw [x_isStatement]) ?_
  refine Tm_ite (fun z => yes _ (Or.inl (hc.2.1.mp z))) (fun z0 => ?_)
  have z0 : ¬ tkK T n q = 26 := fun y => z0 (hc.2.1.mpr y)
  refine Tm_ob (p_sign h (s := 10) (by decide) (by decide) rfl) (fun r1 hr1 => ?_)
  obtain ⟨u, τ⟩ := r1
  obtain ⟨h3, hr1⟩ := hr1
  have h3 : τ = σ := h3
  subst h3
  refine Tm_ite (fun z1 => ?_) (fun z => yes _ (Or.inr (Or.inl (hr1.mp z))))
  have z1 : ¬ tkK T n q = 10 := fun y => hr1.mpr y z1
  refine Tm_ite (fun z => ?_) (fun z => ?_)
  · have hK := hc.2.2.2.2.2.mp z
    have h7 : τ.1 7 = nI (tkK T n q - 32) := hw.2.1 hK
    have hb85 := hw.2.2
    show Tm (fun k => if τ.1 7 = 7 then x_isStatement k 1 L τ else if τ.1 7 = 11 then x_isStatement k 1 L τ else if τ.1 7 = 13 then x_isStatement k 1 L τ else if τ.1 7 < 17 then x_isStatement k 2 L τ else if 24 < τ.1 7 then x_isStatement k 2 L τ else x_isStatement k 1 L τ) _
    have isw : ∀ {s : Nat}, s < 2147483648 → (τ.1 7 = nI s ↔ tkK T n q - 32 = s) := fun hs => is_n h7 (by omega) hs
    refine Tm_ite (fun z => yes _ (by have := (isw (s := 7) (by decide)).mp z; exact Or.inr (Or.inr (Or.inl (by omega))))) (fun y7 => ?_)
    have y7 : ¬ tkK T n q - 32 = 7 := fun y => y7 ((isw (s := 7) (by decide)).mpr y)
    refine Tm_ite (fun z => yes _ (by have := (isw (s := 11) (by decide)).mp z; exact Or.inr (Or.inr (Or.inr (Or.inl (by omega)))))) (fun y11 => ?_)
    have y11 : ¬ tkK T n q - 32 = 11 := fun y => y11 ((isw (s := 11) (by decide)).mpr y)
    refine Tm_ite (fun z => yes _ (by have := (isw (s := 13) (by decide)).mp z; exact Or.inr (Or.inr (Or.inr (Or.inr (Or.inl (by omega))))))) (fun y13 => ?_)
    have y13 : ¬ tkK T n q - 32 = 13 := fun y => y13 ((isw (s := 13) (by decide)).mpr y)
    rw [h7, show (17 : Int32) = nI 17 from rfl, show (24 : Int32) = nI 24 from rfl]
    refine Tm_ite (fun z => no _ (fun y => ?_)) (fun y17 => ?_)
    · rw [n_lt (by omega) (by omega)] at z
      rcases y with y | y | y | y | y | y <;> omega
    rw [n_lt (by omega) (by omega)] at y17
    refine Tm_ite (fun z => no _ (fun y => ?_)) (fun y24 => ?_)
    · rw [n_lt (by omega) (by omega)] at z
      rcases y with y | y | y | y | y | y <;> omega
    rw [n_lt (by omega) (by omega)] at y24
    exact yes _ (Or.inr (Or.inr (Or.inr (Or.inr (Or.inr ⟨by omega, by omega⟩)))))
  · have hK : ¬ 32 ≤ tkK T n q := fun y => z (hc.2.2.2.2.2.mpr y)
    refine no _ (fun y => ?_)
    rcases y with y | y | y | y | y | y <;> omega
end STM
