/-! The class: which statement begins; rows of exps of a print. -/
section CXP
variable {σ σ' σ0 τ τ' τ0 : CS} {L : LV} {b : Bool} {T : Nat → Int32} {n q q' u al o v mk mk' p sz szB szE nc nc0 sz0 mk0 a1 a2 m kk f e s ow a t0 g D op w st w' st' M nm deep vv np lp : Nat} {y qh qh' : Int32} {l l' cs cs' ll lt lt0 : List Int32} {tb : List Ent} {E : En} {gl : Nat × (Nat → Nat → Prop)} {Vm : Nat → Prop} {Pc : Nat → Nat → Prop} {MD : Nat → Nat → Nat} {md : Nat → Nat} {bt : BT} {ks : List Nat} {lo lo' : Option Nat}
/-- how a statement begins, as the house numbers it -/
abbrev bgD (x : Int32) : Prop := x = 2 ∨ x = 14 ∨ x = 39 ∨ x = 43 ∨ x = 45 ∨ x = 49 ∨ x = 50 ∨ x = 51 ∨ x = 52 ∨ x = 53 ∨ x = 54 ∨ x = 55 ∨ x = 56
theorem c_begins (h : QS T n b u al tb o q v mk p sz σ) : Tm (fun k => y_X5_beginsStatement k 0 L σ) (fun r => r.2 = σ ∧ (isSt (tkK T n q) → r.1 = 1) ∧ (¬ isSt (tkK T n q) → r.1 = 0)) := by
  have e2 : σ.1 3702 = cKd (tkK T n q) := h.1.2.2.2.2.2.1
  have k : ∀ j, tkV j → (σ.1 3702 = cKd j ↔ tkK T n q = j) := fun j hj => lx_k h hj
  have yes : isSt (tkK T n q) → Tm (fun k => y_X5_beginsStatement k 1 L σ) (fun r => r.2 = σ ∧ (isSt (tkK T n q) → r.1 = 1) ∧ (¬ isSt (tkK T n q) → r.1 = 0)) := by
    intro hs
    refine Tm_suc (fun k => by rw [y_X5_beginsStatement]) ?_
    exact Tm_some ⟨rfl, fun _ => rfl, fun z => absurd hs z⟩
  have no : ¬ isSt (tkK T n q) → Tm (fun k => y_X5_beginsStatement k 2 L σ) (fun r => r.2 = σ ∧ (isSt (tkK T n q) → r.1 = 1) ∧ (¬ isSt (tkK T n q) → r.1 = 0)) := by
    intro hs
    refine Tm_suc (fun k => by rw [y_X5_beginsStatement]) ?_
    exact Tm_some ⟨rfl, fun z => absurd z hs, fun _ => rfl⟩
  have vs : isSt (tkK T n q) → bgD (σ.1 3702) := fun z => by
    have c : tkK T n q = 26 ∨ tkK T n q = 10 ∨ tkK T n q = 39 ∨ tkK T n q = 43 ∨ tkK T n q = 45 ∨ tkK T n q = 49 ∨ tkK T n q = 50 ∨ tkK T n q = 51 ∨ tkK T n q = 52 ∨ tkK T n q = 53 ∨ tkK T n q = 54 ∨ tkK T n q = 55 ∨ tkK T n q = 56 := by omega
    rw [e2]
    rcases c with c | c | c | c | c | c | c | c | c | c | c | c | c <;> (rw [c]; decide)
  have nos : ∀ j : Int32, σ.1 3702 = j → ¬ bgD j → ¬ isSt (tkK T n q) := fun j c hd hs => hd (c ▸ vs hs)
  refine Tm_suc (fun k => by rw [y_X5_beginsStatement]) ?_
  refine Tm_ite (fun c => yes (by have := (k 26 (by decide)).1 c; omega)) (fun c2 => ?_)
  refine Tm_ite (fun c => no (nos 3 c (by decide))) (fun _ => ?_)
  refine Tm_ite (fun c => no (nos 4 c (by decide))) (fun _ => ?_)
  refine Tm_ite (fun c => no (nos 5 c (by decide))) (fun _ => ?_)
  refine Tm_ite (fun c => no (nos 6 c (by decide))) (fun _ => ?_)
  refine Tm_ite (fun c => no (nos 7 c (by decide))) (fun _ => ?_)
  refine Tm_ite (fun c => no (nos 8 c (by decide))) (fun _ => ?_)
  refine Tm_ite (fun c => no (nos 9 c (by decide))) (fun _ => ?_)
  refine Tm_ite (fun c => no (nos 10 c (by decide))) (fun _ => ?_)
  refine Tm_ite (fun c => no (nos 11 c (by decide))) (fun _ => ?_)
  refine Tm_ite (fun c => no (nos 12 c (by decide))) (fun _ => ?_)
  refine Tm_ite (fun c => no (nos 13 c (by decide))) (fun _ => ?_)
  refine Tm_ite (fun c => yes (by have := (k 10 (by decide)).1 c; omega)) (fun c14 => ?_)
  refine Tm_ite (fun c => no (nos 15 c (by decide))) (fun _ => ?_)
  refine Tm_ite (fun c => no (nos 16 c (by decide))) (fun _ => ?_)
  refine Tm_ite (fun c => no (nos 17 c (by decide))) (fun _ => ?_)
  refine Tm_ite (fun c => no (nos 18 c (by decide))) (fun _ => ?_)
  refine Tm_ite (fun c => no (nos 19 c (by decide))) (fun _ => ?_)
  refine Tm_ite (fun c => no (nos 20 c (by decide))) (fun _ => ?_)
  refine Tm_ite (fun c => no (nos 21 c (by decide))) (fun _ => ?_)
  refine Tm_ite (fun c => no (nos 22 c (by decide))) (fun _ => ?_)
  refine Tm_ite (fun c => no (nos 23 c (by decide))) (fun _ => ?_)
  refine Tm_ite (fun c => no (nos 24 c (by decide))) (fun _ => ?_)
  refine Tm_ite (fun c => no (nos 25 c (by decide))) (fun _ => ?_)
  refine Tm_ite (fun c => no (nos 26 c (by decide))) (fun _ => ?_)
  refine Tm_ite (fun c => no (nos 27 c (by decide))) (fun _ => ?_)
  refine Tm_ite (fun c => no (nos 28 c (by decide))) (fun _ => ?_)
  refine Tm_ite (fun c => no (nos 29 c (by decide))) (fun _ => ?_)
  refine Tm_ite (fun c => no (nos 30 c (by decide))) (fun _ => ?_)
  refine Tm_ite (fun c => no (nos 31 c (by decide))) (fun _ => ?_)
  refine Tm_ite (fun c => no (nos 32 c (by decide))) (fun _ => ?_)
  refine Tm_ite (fun c => no (nos 33 c (by decide))) (fun _ => ?_)
  refine Tm_ite (fun c => no (nos 34 c (by decide))) (fun _ => ?_)
  refine Tm_ite (fun c => no (nos 35 c (by decide))) (fun _ => ?_)
  refine Tm_ite (fun c => no (nos 36 c (by decide))) (fun _ => ?_)
  refine Tm_ite (fun c => no (nos 37 c (by decide))) (fun _ => ?_)
  refine Tm_ite (fun c => no (nos 38 c (by decide))) (fun _ => ?_)
  refine Tm_ite (fun c => yes (by have := (k 39 (by decide)).1 c; omega)) (fun c39 => ?_)
  refine Tm_ite (fun c => no (nos 40 c (by decide))) (fun _ => ?_)
  refine Tm_ite (fun c => no (nos 41 c (by decide))) (fun _ => ?_)
  refine Tm_ite (fun c => no (nos 42 c (by decide))) (fun _ => ?_)
  refine Tm_ite (fun c => yes (by have := (k 43 (by decide)).1 c; omega)) (fun c43 => ?_)
  refine Tm_ite (fun c => no (nos 44 c (by decide))) (fun _ => ?_)
  refine Tm_ite (fun c => yes (by have := (k 45 (by decide)).1 c; omega)) (fun c45 => ?_)
  refine Tm_ite (fun c => no (nos 46 c (by decide))) (fun _ => ?_)
  refine Tm_ite (fun c => no (nos 47 c (by decide))) (fun _ => ?_)
  refine Tm_ite (fun c => no (nos 48 c (by decide))) (fun _ => ?_)
  refine Tm_ite (fun c => yes (by have := (k 49 (by decide)).1 c; omega)) (fun c49 => ?_)
  refine Tm_ite (fun c => yes (by have := (k 50 (by decide)).1 c; omega)) (fun c50 => ?_)
  refine Tm_ite (fun c => yes (by have := (k 51 (by decide)).1 c; omega)) (fun c51 => ?_)
  refine Tm_ite (fun c => yes (by have := (k 52 (by decide)).1 c; omega)) (fun c52 => ?_)
  refine Tm_ite (fun c => yes (by have := (k 53 (by decide)).1 c; omega)) (fun c53 => ?_)
  refine Tm_ite (fun c => yes (by have := (k 54 (by decide)).1 c; omega)) (fun c54 => ?_)
  refine Tm_ite (fun c => yes (by have := (k 55 (by decide)).1 c; omega)) (fun c55 => ?_)
  refine Tm_ite (fun c => yes (by have := (k 56 (by decide)).1 c; omega)) (fun c56 => ?_)
  refine no (fun z => ?_)
  rcases vs z with z | z | z | z | z | z | z | z | z | z | z | z | z
  · exact c2 z
  · exact c14 z
  · exact c39 z
  · exact c43 z
  · exact c45 z
  · exact c49 z
  · exact c50 z
  · exact c51 z
  · exact c52 z
  · exact c53 z
  · exact c54 z
  · exact c55 z
  · exact c56 z
/-- what may not begin here -/
def Bad (k o st u : Nat) (lo : Option Nat) : Prop := (isOp k ∧ o = 20) ∨ st = 400 ∨ ((k = 49 ∨ k = 50) ∧ lo = none) ∨ (k = 51 ∧ u = 0)
theorem c_check {x : Option Unit} (h : QS T n b u al tb o q v mk 0 sz σ) (zf : ZF b u w st lo qh σ) (u42 : u < 42) (hlo : ∀ p, lo = some p → p < 1000000) (hx : (Bad (tkK T n q) o st u lo ∧ x = none) ∨ (¬ Bad (tkK T n q) o st u lo ∧ x = some ())) : Tm (fun k => f_X5_checkStatement k 0 L σ) (QPo b u tb.length sz mk x (fun _ _ τ => τ = σ) σ 0 0) := by
  have s0 := Sx_0 h
  have e2 : σ.1 3702 = cKd (tkK T n q) := h.1.2.2.2.2.2.1
  have k : ∀ j, tkV j → (σ.1 3702 = cKd j ↔ tkK T n q = j) := fun j hj => lx_k h hj
  have e5 := h.2.2.2.2.2.1.1
  have o20 := h.2.2.2.2.2.1.2
  have e3 : σ.1 4003 = nI u := h.2.2.2.2.1.2.1
  obtain ⟨_, ⟨z1, z2⟩, z3, _⟩ := zf
  have ref : ∀ (L' : LV) (g : Nat → RS → Option RS), Bad (tkK T n q) o st u lo → Tm (fun k => ox (f_X5_refuse k 0 L' σ) (g k)) (QPo b u tb.length sz mk x (fun _ _ τ => τ = σ) σ 0 0) := by
    intro L' g hb
    rcases hx with ⟨w1, w2⟩ | ⟨w1, w2⟩
    · rw [w2]; exact st_ref s0
    · exact absurd hb w1
  have b11 : ∀ L' : LV, ¬ Bad (tkK T n q) o st u lo → Tm (fun k => f_X5_checkStatement k 11 L' σ) (QPo b u tb.length sz mk x (fun _ _ τ => τ = σ) σ 0 0) := by
    intro L' hb
    rcases hx with ⟨w1, w2⟩ | ⟨w1, w2⟩
    · exact absurd w1 hb
    refine Tm_suc (fun k => by rw [f_X5_checkStatement]) ?_
    rw [w2]
    exact Tm_some (Qfin s0 rfl)
  have b10 : ∀ L' : LV, Bad (tkK T n q) o st u lo → Tm (fun k => f_X5_checkStatement k 10 L' σ) (QPo b u tb.length sz mk x (fun _ _ τ => τ = σ) σ 0 0) := by
    intro L' hb
    refine Tm_suc (fun k => by rw [f_X5_checkStatement]) ?_
    exact ref _ _ hb
  have b9 : ∀ L' : LV, L'.1 1 = σ.1 3702 → ¬ (isOp (tkK T n q) ∧ o = 20) → ¬ st = 400 → ¬ ((tkK T n q = 49 ∨ tkK T n q = 50) ∧ lo = none) → Tm (fun k => f_X5_checkStatement k 9 L' σ) (QPo b u tb.length sz mk x (fun _ _ τ => τ = σ) σ 0 0) := by
    intro L' l1 h1 h2 h3
    have fin : ¬ (tkK T n q = 51 ∧ u = 0) → ¬ Bad (tkK T n q) o st u lo := fun z y => by
      rcases y with y | y | y | y
      · exact h1 y
      · exact h2 y
      · exact h3 y
      · exact z y
    refine Tm_suc (fun k => by rw [f_X5_checkStatement]) ?_
    rw [l1, e3]
    refine Tm_ite (fun c => ?_) (fun c => b11 _ (fin (fun z => c ((k 51 (by decide)).2 z.1))))
    have c51 := (k 51 (by decide)).1 c
    refine Tm_ite (fun d => b10 _ (Or.inr (Or.inr (Or.inr ⟨c51, ?_⟩)))) (fun d => b11 _ (fin (fun z => d ?_)))
    · rw [n_eq0 (by omega)] at d; exact d
    · rw [z.2]; rfl
  have b7 : ∀ L' : LV, L'.1 1 = σ.1 3702 → (L'.1 100 = 0 ↔ lo = none) → ¬ (isOp (tkK T n q) ∧ o = 20) → ¬ st = 400 → Tm (fun k => f_X5_checkStatement k 7 L' σ) (QPo b u tb.length sz mk x (fun _ _ τ => τ = σ) σ 0 0) := by
    intro L' l1 l100 h1 h2
    have b8 : ∀ L8 : LV, L8.1 1 = σ.1 3702 → L8.1 3 = L'.1 100 → (tkK T n q = 49 ∨ tkK T n q = 50) → Tm (fun k => f_X5_checkStatement k 8 L8 σ) (QPo b u tb.length sz mk x (fun _ _ τ => τ = σ) σ 0 0) := by
      intro L8 m1 m3 hk
      refine Tm_suc (fun k => by rw [f_X5_checkStatement]) ?_
      rw [m3]
      refine Tm_ite (fun c => b10 _ (Or.inr (Or.inr (Or.inl ⟨hk, l100.1 c⟩)))) (fun c => b9 _ m1 h1 h2 (fun z => c (l100.2 z.2)))
    refine Tm_suc (fun k => by rw [f_X5_checkStatement]) ?_
    rw [l1]
    refine Tm_ite (fun c => b8 _ l1 rfl (Or.inl ((k 49 (by decide)).1 c))) (fun c49 => ?_)
    refine Tm_ite (fun c => b8 _ l1 rfl (Or.inr ((k 50 (by decide)).1 c))) (fun c50 => ?_)
    exact b9 _ l1 h1 h2 (fun z => z.1.elim (fun y => c49 ((k 49 (by decide)).2 y)) (fun y => c50 ((k 50 (by decide)).2 y)))
  have b4 : ∀ L' : LV, L'.1 1 = σ.1 3702 → ¬ (isOp (tkK T n q) ∧ o = 20) → Tm (fun k => f_X5_checkStatement k 4 L' σ) (QPo b u tb.length sz mk x (fun _ _ τ => τ = σ) σ 0 0) := by
    intro L' l1 h1
    refine Tm_suc (fun k => by rw [f_X5_checkStatement]) ?_
    refine Tm_oP h.2.2.2.2.1.1 ?_
    rw [z1]
    refine Tm_ite (fun c => ?_) (fun c => ref _ _ (Or.inr (Or.inl ?_)))
    · have c' : nI st < nI 400 := c
      rw [n_lt (by omega) (by decide)] at c'
      refine Tm_suc (fun k => by rw [f_X5_checkStatement]) ?_
      rw [z3]
      cases lo with
      | none =>
        refine Tm_yes rfl ?_
        refine Tm_suc (fun k => by rw [f_X5_checkStatement]) ?_
        exact b7 _ l1 ⟨fun _ => rfl, fun _ => rfl⟩ h1 (by omega)
      | some p =>
        refine Tm_no (n_mn (by have := hlo p rfl; omega)) ?_
        exact b7 _ l1 ⟨fun z => absurd z (by show ¬ (1 : Int32) = 0; decide), fun z => by cases z⟩ h1 (by omega)
    · have c' : ¬ nI st < nI 400 := c
      rw [n_lt (by omega) (by decide)] at c'
      omega
  have b3 : ∀ L' : LV, L'.1 1 = σ.1 3702 → (L'.1 100 = 0 ↔ ¬ isOp (tkK T n q)) → Tm (fun k => f_X5_checkStatement k 3 L' σ) (QPo b u tb.length sz mk x (fun _ _ τ => τ = σ) σ 0 0) := by
    intro L' l1 l100
    refine Tm_suc (fun k => by rw [f_X5_checkStatement]) ?_
    refine Tm_ite (fun c => b4 _ l1 (fun z => l100.1 c z.1)) (fun c => ?_)
    rw [e5]
    refine Tm_ite (fun d => b4 _ l1 (fun z => ?_)) (fun d => ref _ _ (Or.inl ⟨Classical.byContradiction (fun z => c (l100.2 z)), ?_⟩))
    · have d' : nI o < nI 20 := d
      rw [n_lt (by omega) (by decide)] at d'
      omega
    · have d' : ¬ nI o < nI 20 := d
      rw [n_lt (by omega) (by decide)] at d'
      omega
  have b1 : ∀ L' : LV, L'.1 1 = σ.1 3702 → isOp (tkK T n q) → Tm (fun k => f_X5_checkStatement k 1 L' σ) (QPo b u tb.length sz mk x (fun _ _ τ => τ = σ) σ 0 0) := by
    intro L' l1 ho
    refine Tm_suc (fun k => by rw [f_X5_checkStatement]) ?_
    exact b3 _ l1 ⟨fun z => absurd z (by show ¬ (1 : Int32) = 0; decide), fun z => absurd ho z⟩
  refine Tm_suc (fun k => by rw [f_X5_checkStatement]) ?_
  refine Tm_ite (fun c => b1 _ rfl (by have := (k 10 (by decide)).1 c; omega)) (fun c10 => ?_)
  refine Tm_ite (fun c => b1 _ rfl (by have := (k 39 (by decide)).1 c; omega)) (fun c39 => ?_)
  refine Tm_ite (fun c => b1 _ rfl (by have := (k 43 (by decide)).1 c; omega)) (fun c43 => ?_)
  refine Tm_ite (fun c => b1 _ rfl (by have := (k 45 (by decide)).1 c; omega)) (fun c45 => ?_)
  refine Tm_suc (fun k => by rw [f_X5_checkStatement]) ?_
  refine b3 _ rfl ⟨fun _ z => ?_, fun _ => rfl⟩
  rcases z with z | z | z | z
  · exact c39 ((k 39 (by decide)).2 z)
  · exact c43 ((k 43 (by decide)).2 z)
  · exact c45 ((k 45 (by decide)).2 z)
  · exact c10 ((k 10 (by decide)).2 z)
/-- behind the exps of a print -/
def PsR (T : Nat → Int32) (n : Nat) (b : Bool) (u al : Nat) (gl : Nat × (Nat → Nat → Prop)) (Vm : Nat → Prop) (tb : List Ent) (o mk p sz q v : Nat) (r : RT) (y : Int32) (τ : CS) : Prop := ∃ (c : Nat) (cs : List Int32), y = nI c ∧ QS T n b u al tb o r.1 r.2.1 mk p (sz + cs.length) τ ∧ (∀ i, i < cs.length → cdr b τ (sz + i) = cs.getD i 0) ∧ Sgm u p gl Vm c cs ∧ 2 * cs.length ≤ 3 * (r.1 - q) + 1 ∧ q < r.1 ∧ v ≤ r.2.1
theorem c_expsP {x : Option RT} (px : ∀ f', f' ≤ f → PXp T n b u al f' e) (h : QS T n b u al tb o q v mk p sz σ) (ev : EvX E b u al gl Vm tb σ) (bd : BdX n o q v mk p sz tb.length) (hG : gb (G T n f 0 E o q v 0 0 0 0 bt) (fun r => GPr T n E f o r.1 r.2.1 r.2.2.2.1 r.2.2.2.2.1) = some x) (hd : 6 * (20 - o) + 8 ≤ e) : Tm (fun k => f_F2 k (e + 1) 2 0 L σ) (QPo b u tb.length sz mk x (PsR T n b u al gl Vm tb o mk p sz q v) σ 0 0) := by
  have s0 := Sy_0 h
  have go := tk_go h
  have n10 := bd.1
  have b1 : ∀ (f1 : Nat), f1 ≤ f → ∀ (L' : LV) (τ' : CS) (a1 a2 c q1 v1 e1 : Nat) (bt1 : BT) (ll : List Int32), GPr T n E f1 o q1 v1 e1 bt1 = some x → 1 ≤ c → c ≤ q1 → L'.1 1 = nI c → L'.1 2 = nI (c - 1) → Sy T n b u al σ tb.length sz mk a1 a2 tb o q1 v1 mk p sz ll τ' → Sgm u p gl Vm c ll → 2 * ll.length ≤ 3 * (q1 - q) + 1 → q < q1 → v ≤ v1 → Tm (fun k => f_F2 k (e + 1) 2 1 L' τ') (QPo b u tb.length sz mk x (PsR T n b u al gl Vm tb o mk p sz q v) σ a1 a2) := by
    intro f1
    induction f1 with
    | zero =>
      intro _ L' τ' a1 a2 c q1 v1 e1 bt1 ll hg
      cases hg
    | succ f1 ih =>
      intro hf L' τ' a1 a2 c q1 v1 e1 bt1 ll hg c1 cq l1 l2 s1 sg ln lt lv
      have go1 := tk_go s1.1.1
      have hg' : (if tkK T n q1 = 12 then gT T n q1 (fun q2 => gb (G T n f1 0 E o q2 v1 0 0 0 0 bt1) (fun r => GPr T n E f1 o r.1 r.2.1 r.2.2.2.1 (bSet r.2.2.2.2.1 9 e1 (nI r.2.2.2.1)))) else some (some (q1, v1, 0, e1, bt1, []))) = some x := hg
      refine Tm_suc (fun k => es_1 k _ _ _) ?_
      refine Tm_no ?_ ?_
      · rw [l2]
        show ¬ nI 32768 < nI (c - 1)
        rw [u_ltn (by decide) (by rw [u_n (by omega)]; omega), u_n (by decide), u_n (by omega)]
        omega
      by_cases k12 : tkK T n q1 = 12
      · rw [if_pos k12] at hg'
        have g2 := go1.2.2 (by omega)
        refine Tm_yes ((lx_k (kk := 12) s1.1.1 (by decide)).2 k12) ?_
        refine st_advY s1 (gT_any hg') (fun τ2 r2 er c2 s2 => ?_)
        refine Tm_d ?_
        rw [er]
        have bd2 : BdX n o (tkN T n q1) v1 mk p (sz + ll.length) tb.length := BdX_g bd (by omega) go1.2.1 (Nat.le_refl _) lv (by omega)
        rcases gb_any c2 with ⟨y1, y2⟩ | ⟨r4, y1, y2⟩
        · exact st_exp (C := True) (px f1 (by omega)) (Or.inl ⟨rfl, rfl⟩) s2 (EvX_k ev s2.1.2.1) bd2 rfl hd y1 (Or.inl ⟨rfl, y2⟩) (fun _ _ _ _ _ _ z => by cases z)
        · refine st_exp (C := True) (px f1 (by omega)) (Or.inl ⟨rfl, rfl⟩) s2 (EvX_k ev s2.1.2.1) bd2 rfl hd y1 (Or.inr ⟨r4, rfl, trivial⟩) (fun τ5 ret5 p1 p2 r5 l5 hz5 _ s5 xk5 sg5 ln5 lt5 lv5 tg5 => ?_)
          cases hz5
          refine ih (by omega) _ τ5 _ _ (c + 1) r4.1 r4.2.1 _ _ (ll ++ l5) y2 (by omega) (by omega) ?_ ?_ s5 (Sgm_seq sg sg5) ?_ (by omega) (by omega)
          · show L'.1 1 + 1 = _
            rw [l1, n_add1]
          · show L'.1 2 + 1 = nI (c + 1 - 1)
            rw [l2, n_add1]
            exact congrArg nI (by omega)
          · rw [List.length_append]
            omega
      · rw [if_neg k12] at hg'
        refine Tm_no (fun z => k12 ((lx_k (kk := 12) s1.1.1 (by decide)).1 z)) ?_
        refine Tm_suc (fun k => es_2 k _ _ _) ?_
        cases hg'
        exact Tm_some (Qfin s1.1 ⟨c, ll, l1, s1.1.1, s1.2, sg, ln, lt, lv⟩)
  refine Tm_suc (fun k => es_0 k _ _ _) ?_
  refine Tm_d ?_
  rcases gb_any hG with ⟨y1, y2⟩ | ⟨r4, y1, y2⟩
  · exact st_exp (C := True) (px f (Nat.le_refl _)) (Or.inl ⟨rfl, rfl⟩) s0 ev (by show BdX n o q v mk p (sz + 0) tb.length; exact bd) rfl hd y1 (Or.inl ⟨rfl, y2⟩) (fun _ _ _ _ _ _ z => by cases z)
  · refine st_exp (C := True) (px f (Nat.le_refl _)) (Or.inl ⟨rfl, rfl⟩) s0 ev (by show BdX n o q v mk p (sz + 0) tb.length; exact bd) rfl hd y1 (Or.inr ⟨r4, rfl, trivial⟩) (fun τ5 ret5 p1 p2 r5 l5 hz5 _ s5 xk5 sg5 ln5 lt5 lv5 tg5 => ?_)
    cases hz5
    exact b1 f (Nat.le_refl _) _ τ5 _ _ 1 r4.1 r4.2.1 _ _ l5 y2 (by omega) (by omega) rfl rfl s5 sg5 ln5 lt5 lv5
end CXP
