/-! Rows of variables (reference). -/
abbrev teC (T : Nat → Int32) (n : Nat) (E : En) (q v : Nat) : Prop := tkK T n q = 26 ∧ (fd E (tkS T n q)).1 = 0 ∧ ¬ v = 60
abbrev eTe (T : Nat → Int32) (n : Nat) (E : En) (q v : Nat) (b : BT) : En := glA E (tkS T n q, b.2.1, 1, v)
def gTe {β : Type} (T : Nat → Int32) (n : Nat) (E : En) (q v : Nat) (b : BT) (k : DV → Option (Option β)) : Option (Option β) :=
  if teC T n E q v then pT T n q (fun q1 => k (q1, eTe T n E q v b, v + 1, bTl T n E q v b)) else some none
theorem gTe_any {β : Type} {T : Nat → Int32} {n : Nat} {E : En} {q v : Nat} {b : BT} {k : DV → Option (Option β)} {y : Option β} (h : gTe T n E q v b k = some y) : (¬ (teC T n E q v ∧ ¬ tkK T n (tkN T n q) = 0) ∧ y = none) ∨ ((teC T n E q v ∧ ¬ tkK T n (tkN T n q) = 0) ∧ k (tkN T n q, eTe T n E q v b, v + 1, bTl T n E q v b) = some y) := by
  unfold gTe at h
  by_cases c : teC T n E q v
  · rw [if_pos c] at h
    rcases pT_any h with ⟨a, b⟩ | ⟨a, b⟩
    · exact Or.inl ⟨fun z => z.2 a, b⟩
    · exact Or.inr ⟨⟨c, a⟩, b⟩
  · rw [if_neg c] at h; exact Or.inl ⟨fun z => c z.1, (Option.some.inj h).symm⟩
/-- NAME { , NAME } ; -/
def GVr (T : Nat → Int32) (n : Nat) : Nat → En → Nat → Nat → BT → Option (Option DV)
  | 0, _, _, _, _ => none
  | f + 1, E, q, v, b => (if E.2.2.2.1 = 0 then gTe T n E q v b else gTl T n E q v b) (fun r => if tkK T n r.1 = 12 then pT T n r.1 (fun q2 => GVr T n f r.2.1 q2 r.2.2.1 r.2.2.2) else pW T n 13 r.1 (fun q2 => some (some (q2, r.2))))
def PoV (T : Nat → Int32) (n o w : Nat) (σ0 : MS) : Option DV → Int32 × MS → Prop
  | none, r => (∃ m, Bb m r.2) ∧ FrV w σ0 r.2
  | some t, r => PS T n t.2.1 o t.1 t.2.2.1 t.2.2.2 r.2 ∧ FrV w σ0 r.2
theorem PoV_tr {T : Nat → Int32} {n o w : Nat} {σ τ : MS} {x : Option DV} {r : Int32 × MS} (h : FrV w σ τ) (hp : PoV T n o w τ x r) : PoV T n o w σ x r := by
  cases x with
  | none => exact ⟨hp.1, FrV_tr h hp.2⟩
  | some t => exact ⟨hp.1, FrV_tr h hp.2⟩
section DVR
variable {T : Nat → Int32} {n : Nat} {E : En} {o q v : Nat} {b : BT} {σ : MS}
theorem v_find {w : Nat} (h : PS T n E o q v b σ) (hp : b.2.1 ≤ 70000) (L : Nat → Int32) : Tm (fun k => x_find k 0 L σ) (fun r => PS T n E o q v b r.2 ∧ FrV w σ r.2 ∧ r.2.1 46 = nI (fd E (tkS T n q)).1 ∧ (fd E (tkS T n q)).1 ≤ 3) := by
  have h0 := h
  obtain ⟨⟨⟨a1, a2⟩, a3, a4, a5, ⟨c1, c2, c3, c4, c5, c6⟩, a6⟩, ⟨d1, d2⟩, ⟨e1, e2, e3, e4, e5⟩, ⟨f1, f2, f3, f4, f5⟩, ⟨⟨g1, g2, g3⟩, ⟨g4, g5, g6⟩, ⟨g7, g8, g9⟩⟩, ⟨i1, i2, i3⟩⟩ := h
  have hE := tkE_b T n q c1
  have hgl : ∀ j, j < E.1.length → ∃ p l, mRow σ 14 15 j p l := fun j hj => by
    obtain ⟨k1, k2, k3, k4, k5, _⟩ := g9 j E.1[j] (List.getElem?_eq_getElem hj)
    exact ⟨_, _, k2, k3, by omega⟩
  refine Tm_mono (Tm_and (p_find (M := 0) (P := 0) (w := 0) h0 hp L) (s_find c2 c4 hE.1 (by omega) g1 (by omega) g7 g8 (rows_mRow hp E.2.1 g3) hgl L)) (fun r hr => ?_)
  obtain ⟨⟨p1, p2, p3, p4, p5, _⟩, q1, _⟩ := hr
  exact ⟨p1, FrV_s2 (fun j hj => p3 j (by omega) (by omega) (by omega)) q1, p4, p5⟩
theorem v_want {w : Nat} (h : PS T n E o q v b σ) {s : Nat} (h1 : 1 ≤ s) (h2 : s ≤ 24) {L : Nat → Int32} (hL : L 1 = nI s) : Tm (fun k => x_want k 0 L σ) (fun r => FrV w σ r.2 ∧ ((¬ (tkK T n q = s ∧ ¬ tkK T n (tkN T n q) = 0) ∧ Bb b.1 r.2) ∨ ((tkK T n q = s ∧ ¬ tkK T n (tkN T n q) = 0) ∧ PS T n E o (tkN T n q) v b r.2))) := by
  refine Tm_suc (fun k => by rw [x_want]) ?_
  refine Tm_ite (fun _ => ?_) (fun c => absurd (PS_ok h) c)
  refine Tm_ob (p_sign h h1 h2 (by rw [upd_same]; exact hL)) (fun r hr => ?_)
  obtain ⟨u, τ⟩ := r
  obtain ⟨rfl, hr⟩ := hr
  refine Tm_ite (fun c => ?_) (fun c => ?_)
  · have hk : ¬ tkK T n q = s := fun z => hr.mpr z c
    refine Tm_ob (s_cannot _ τ) (fun r hr => ?_)
    subst hr
    have hB := flt_b (M := 0) (P := 0) (w := 0) (PS_ok h) (PS_m h) 2 (τ.1 8)
    refine Tm_suc (fun k => by rw [x_want]) ?_
    refine Tm_ite (fun c => absurd c hB.1.1) (fun _ => ?_)
    refine Tm_suc (fun k => by rw [x_want]) ?_
    exact Tm_some ⟨FrV_flt _ _, Or.inl ⟨fun z => hk z.1, hB.1⟩⟩
  · have hk := hr.mp c
    refine Tm_suc (fun k => by rw [x_want]) ?_
    refine Tm_ite (fun _ => ?_) (fun c => absurd (PS_ok h) c)
    refine Tm_ob (v_take (w := w) h _) (fun r hr => ?_)
    refine Tm_suc (fun k => by rw [x_want]) ?_
    refine Tm_some ⟨hr.1, ?_⟩
    rcases hr.2 with ⟨a, c⟩ | ⟨a, c⟩
    · exact Or.inl ⟨fun z => z.2 a, c⟩
    · exact Or.inr ⟨⟨hk, a⟩, c⟩
/-- after a fault, from the loop's test on -/
theorem dv_b {ρ : MS} {N : Nat → Int32} (hb : ¬ ρ.1 10 = 0) : Tm (fun k => x_declareVar k 1 N ρ) (fun r => r.2 = ρ) := by
  have l11 : Tm (fun k => x_declareVar k 11 N ρ) (fun r => r.2 = ρ) := by
    refine Tm_suc (fun k => by rw [x_declareVar]) ?_
    refine Tm_ob (b_want hb _) (fun r hr => ?_)
    exact Tm_some hr
  refine Tm_suc (fun k => by rw [x_declareVar]) ?_
  refine Tm_ite (fun _ => l11) (fun _ => ?_)
  exact Tm_ite (fun z => absurd z hb) (fun _ => l11)
theorem dv_b8 {ρ : MS} {N : Nat → Int32} (hb : ¬ ρ.1 10 = 0) : Tm (fun k => x_declareVar k 8 N ρ) (fun r => r.2 = ρ) := by
  refine Tm_suc (fun k => by rw [x_declareVar]) ?_
  refine Tm_ite (fun z => absurd z hb) (fun _ => ?_)
  refine Tm_suc (fun k => by rw [x_declareVar]) ?_
  refine Tm_suc (fun k => by rw [x_declareVar]) ?_
  show Tm (fun k => x_declareVar k 1 _ ρ) _
  exact dv_b hb
/-- behind a name -/
theorem dv_8 {f w : Nat} {x : Option DV} {N : Nat → Int32} (hG : (if tkK T n q = 12 then pT T n q (fun q2 => GVr T n f E q2 v b) else pW T n 13 q (fun q2 => some (some (q2, E, v, b)))) = some x) (h : PS T n E o q v b σ)
    (H : ∀ (q2 : Nat) (ρ : MS) (N : Nat → Int32), q2 = tkN T n q → GVr T n f E q2 v b = some x → PS T n E o q2 v b ρ → N 1 = 1 → Tm (fun k => x_declareVar k 1 N ρ) (PoV T n o w ρ x)) : Tm (fun k => x_declareVar k 8 N σ) (PoV T n o w σ x) := by
  refine Tm_suc (fun k => by rw [x_declareVar]) ?_
  refine Tm_ite (fun _ => ?_) (fun z => absurd (PS_ok h) z)
  refine Tm_ob (p_sign h (s := 12) (by decide) (by decide) upd_same) (fun r hr => ?_)
  obtain ⟨u, τ⟩ := r
  obtain ⟨rfl, hr⟩ := hr
  refine Tm_ite (fun c => ?_) (fun c => ?_)
  · rw [if_neg (fun z => hr.mpr z c)] at hG
    refine Tm_suc (fun k => by rw [x_declareVar]) ?_
    refine Tm_suc (fun k => by rw [x_declareVar]) ?_
    show Tm (fun k => x_declareVar k 1 (upd (upd N 100 0) 1 0) τ) _
    refine Tm_suc (fun k => by rw [x_declareVar]) ?_
    show Tm (fun k => x_declareVar k 11 _ τ) _
    refine Tm_suc (fun k => by rw [x_declareVar]) ?_
    refine Tm_ob (v_want (w := w) h (s := 13) (by decide) (by decide) upd_same) (fun r hr => ?_)
    refine Tm_some ?_
    rcases pW_any hG with ⟨z, rfl⟩ | ⟨z, hx⟩
    · rcases hr.2 with ⟨_, hB⟩ | ⟨y, _⟩
      · exact ⟨⟨_, hB⟩, hr.1⟩
      · exact absurd y z
    · rcases hr.2 with ⟨y, _⟩ | ⟨_, hS⟩
      · exact absurd z y
      · obtain rfl := Option.some.inj hx
        exact ⟨hS, hr.1⟩
  · rw [if_pos (hr.mp c)] at hG
    refine Tm_suc (fun k => by rw [x_declareVar]) ?_
    show Tm (fun k => ob (x_take k 0 (fun _ => 0) τ) (fun r2 => x_declareVar k 1 (upd (upd N 100 1) 1 1) r2.2)) _
    refine Tm_ob (v_take (w := w) h _) (fun r hr => ?_)
    rcases pT_any hG with ⟨z, rfl⟩ | ⟨z, hx⟩
    · rcases hr.2 with ⟨_, hB⟩ | ⟨y, _⟩
      · refine Tm_mono (dv_b hB.1) (fun s hs => ?_)
        rw [show PoV T n o w τ none s = ((∃ m, Bb m s.2) ∧ FrV w τ s.2) from rfl, hs]
        exact ⟨⟨_, hB⟩, hr.1⟩
      · exact absurd z y
    · rcases hr.2 with ⟨y, _⟩ | ⟨_, hS⟩
      · exact absurd y z
      · exact Tm_mono (H _ _ _ rfl hx hS upd_same) (fun s hs => PoV_tr hr.1 hs)
end DVR
