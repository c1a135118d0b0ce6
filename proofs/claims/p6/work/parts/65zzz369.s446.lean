/-! The class: steps of its parser. -/
section CVE
variable {σ σ' σ0 τ τ' : CS} {L : LV} {b : Bool} {T : Nat → Int32} {n q q' u al o v mk p sz nc0 sz0 mk0 a1 a2 m kk : Nat} {y : Int32} {l l' : List Int32} {tb : List Ent} {α : Type} {x : Option α} {S : α → Int32 → CS → Prop} {C : Prop}
/-- how it stands, within a method that began at σ0, with what it cost so far -/
def Sx (T : Nat → Int32) (n : Nat) (b : Bool) (u al : Nat) (σ0 : CS) (nc0 sz0 mk0 a1 a2 : Nat) (tb : List Ent) (o q v mk p sz : Nat) (τ : CS) : Prop := QS T n b u al tb o q v mk p sz τ ∧ XK b u nc0 sz0 mk0 σ0 τ ∧ (a1 + PhC τ ≤ PhC σ0 ∧ a2 + PhS τ ≤ PhS σ0) ∧ nc0 ≤ tb.length ∧ sz0 ≤ sz ∧ mk0 ≤ mk
theorem Sx_0 (h : QS T n b u al tb o q v mk p sz σ) : Sx T n b u al σ tb.length sz mk 0 0 tb o q v mk p sz σ := ⟨h, XK_r h, ⟨by omega, by omega⟩, Nat.le_refl _, Nat.le_refl _, Nat.le_refl _⟩
/-- what a method leaves: it throws where x is none; else S of what x is -/
def QPo (b : Bool) (u nc0 sz0 mk0 : Nat) {α : Type} (x : Option α) (S : α → Int32 → CS → Prop) (σ0 : CS) (a1 a2 : Nat) (r : RS) : Prop := (∀ t, x = some t → r.1.1 = 0 ∧ S t r.1.2 r.2.1) ∧ (x = none → r.1.1 = 1) ∧ (r.1.1 = 0 → a1 + r.2.2.1 + PhC r.2.1 ≤ PhC σ0 ∧ a2 + r.2.2.2 + PhS r.2.1 ≤ PhS σ0) ∧ (¬ r.1.1 = 0 → a1 + r.2.2.1 + PhC r.2.1 ≤ PhC σ0 + 1 ∧ a2 + r.2.2.2 + PhS r.2.1 ≤ PhS σ0 + 6) ∧ XK b u nc0 sz0 mk0 σ0 r.2.1
theorem QPo_s {n1 n2 : Nat} {r : RS} (h : QPo b u nc0 sz0 mk0 x S σ0 (a1 + n1) (a2 + n2) r) : QPo b u nc0 sz0 mk0 x S σ0 a1 a2 (r.1, r.2.1, (n1 + r.2.2.1, n2 + r.2.2.2)) := by
  obtain ⟨h1, h2, h3, h4, h5⟩ := h
  refine ⟨h1, h2, fun e => ?_, fun e => ?_, h5⟩
  · have z := h3 e
    show a1 + (n1 + r.2.2.1) + PhC r.2.1 ≤ _ ∧ a2 + (n2 + r.2.2.2) + PhS r.2.1 ≤ _
    omega
  · have z := h4 e
    show a1 + (n1 + r.2.2.1) + PhC r.2.1 ≤ _ ∧ a2 + (n2 + r.2.2.2) + PhS r.2.1 ≤ _
    omega
/-- the method ends -/
theorem Qfin {t : α} (h : Sx T n b u al σ0 nc0 sz0 mk0 a1 a2 tb o q v mk p sz τ) (hs : S t y τ) : QPo b u nc0 sz0 mk0 (some t) S σ0 a1 a2 ((0, y), τ, (0, 0)) := by
  obtain ⟨h1, h2, h3, h4⟩ := h
  refine ⟨fun t' e => by cases e; exact ⟨rfl, hs⟩, fun e => (by cases e), fun _ => ?_, fun e => absurd rfl e, h2⟩
  show a1 + 0 + PhC τ ≤ _ ∧ a2 + 0 + PhS τ ≤ _
  omega
/-- something thrown goes through -/
theorem Qthr {r : RS} (h : Sx T n b u al σ0 nc0 sz0 mk0 a1 a2 tb o q v mk p sz τ) (e : r.1.1 = 1) (c : CoT τ r) (xk : XK b u tb.length sz mk τ r.2.1) : QPo b u nc0 sz0 mk0 (none : Option α) S σ0 a1 a2 r := by
  obtain ⟨h1, h2, h3, h4, h5, h6⟩ := h
  refine ⟨fun t' e => (by cases e), fun _ => e, fun z => absurd z (by rw [e]; decide), fun z => ?_, XK_t h2 xk h4 h5 h6⟩
  have w := c.2 z
  omega
/-- a call within: where it throws all throws -/
theorem st_call {β : Type} {z : Option β} {R : β → Int32 → CS → Prop} {g : Nat → Option RS} {f : Nat → RS → Option RS} (h : Sx T n b u al σ0 nc0 sz0 mk0 a1 a2 tb o q v mk p sz τ) (t : Tm g (QPo b u tb.length sz mk z R τ 0 0)) (hx : (z = none ∧ x = none) ∨ ∃ s, z = some s ∧ C ∧ ∀ (τ' : CS) (ret : Int32) (n1 n2 : Nat), R s ret τ' → XK b u tb.length sz mk τ τ' → (a1 + n1 + PhC τ' ≤ PhC σ0 ∧ a2 + n2 + PhS τ' ≤ PhS σ0) → Tm (fun k => f k ((0, ret), τ', (n1, n2))) (QPo b u nc0 sz0 mk0 x S σ0 (a1 + n1) (a2 + n2))) : Tm (fun k => ox (g k) (f k)) (QPo b u nc0 sz0 mk0 x S σ0 a1 a2) := by
  have hh := h
  obtain ⟨h1, h2, h3, h4, h5, h6⟩ := h
  refine Tm_ox t (fun r w nz => ?_) (fun r w e0 => ?_)
  · rcases hx with ⟨e1, e2⟩ | ⟨s, e1, _⟩
    · rw [e2]
      refine Qthr hh (w.2.1 e1) ⟨fun e => absurd e nz, fun e => ?_⟩ w.2.2.2.2
      have y := w.2.2.2.1 e
      omega
    · exact absurd (w.1 s e1).1 nz
  · rcases hx with ⟨e1, e2⟩ | ⟨s, e1, c, cont⟩
    · exact absurd (w.2.1 e1) (by rw [e0]; decide)
    · have y := w.2.2.1 e0
      have k := cont r.2.1 r.1.2 r.2.2.1 r.2.2.2 (w.1 s e1).2 w.2.2.2.2 ⟨by omega, by omega⟩
      have er : ((0, r.1.2), r.2.1, (r.2.2.1, r.2.2.2)) = r := by
        rw [← e0]
      rw [er] at k
      exact Tm_mono k (fun q z => QPo_s z)
/-- the next token -/
theorem st_adv {f : Nat → RS → Option RS} (h : Sx T n b u al σ0 nc0 sz0 mk0 a1 a2 tb o q v mk p sz τ) (hx : (tkK T n (tkN T n q) = 0 ∧ x = none) ∨ (¬ tkK T n (tkN T n q) = 0 ∧ C)) (cont : ∀ (τ' : CS) (r : RS), r.2.1 = τ' → C → Sx T n b u al σ0 nc0 sz0 mk0 a1 a2 tb o (tkN T n q) v mk p sz τ' → Tm (fun k => f k r) (QPo b u nc0 sz0 mk0 x S σ0 a1 a2)) : Tm (fun k => ox (f_X2_advance k 0 L τ) (f k)) (QPo b u nc0 sz0 mk0 x S σ0 a1 a2) := by
  have hh := h
  obtain ⟨h1, h2, h3, h4, h5, h6⟩ := h
  have t : Tm (fun k => f_X2_advance k 0 L τ) (fun r => QA T n b u al tb o (tkN T n q) v mk p sz τ r ∧ (r.1.1 = 0 → r.2.2 = (0, 0) ∧ PhC r.2.1 = PhC τ ∧ PhS r.2.1 = PhS τ)) := by
    refine Tm_and (c_advQ h1) (Tm_mono (c_adv h1.1) (fun r z e => ?_))
    obtain ⟨z1, z2, kd, st, en, hi, lo, z3⟩ := z
    by_cases k0 : tkK T n (tkN T n q) = 0
    · rw [(z1 k0).1] at e
      exact absurd e (by decide)
    · refine ⟨(z2 k0).2.1, ?_⟩
      exact Ph_s (by rw [z3]; rfl)
  refine Tm_ox t (fun r w nz => ?_) (fun r w e0 => ?_)
  · obtain ⟨w, _⟩ := w
    rcases hx with ⟨e1, e2⟩ | ⟨e1, c⟩
    · rw [e2]
      exact Qthr hh (w.1 e1) w.2.2.1 w.2.2.2
    · exact absurd (w.2.1 e1).1 nz
  · obtain ⟨w, wc⟩ := w
    rcases hx with ⟨e1, e2⟩ | ⟨e1, c⟩
    · exact absurd (w.1 e1) (by rw [e0]; decide)
    · obtain ⟨c1, c2, c3⟩ := wc e0
      have k := cont r.2.1 r rfl c ⟨(w.2.1 e1).2, XK_t h2 w.2.2.2 h4 h5 h6, ⟨by omega, by omega⟩, h4, h5, h6⟩
      refine Tm_mono k (fun q z => ?_)
      rw [c1]
      exact QPo_s (n1 := 0) (n2 := 0) z
/-- what is refused is thrown -/
theorem st_ref {f : Nat → RS → Option RS} (h : Sx T n b u al σ0 nc0 sz0 mk0 a1 a2 tb o q v mk p sz τ) : Tm (fun k => ox (f_X5_refuse k 0 L τ) (f k)) (QPo b u nc0 sz0 mk0 (none : Option α) S σ0 a1 a2) := by
  have hh := h
  obtain ⟨h1, h2, h3, h4, h5, h6⟩ := h
  have t : Tm (fun k => f_X5_refuse k 0 L τ) (fun r => r = ((1, 0), uI (uI τ 4006 (L.1 1)) 4007 (L.1 2), (1, 6))) := by
    refine Tm_suc (fun k => by rw [f_X5_refuse]) ?_
    exact Tm_some rfl
  refine Tm_ox t (fun r w nz => ?_) (fun r w e0 => absurd e0 (by rw [w]; show ¬ 1 = 0; decide))
  have fc := fP_c b 19
  have qf := QS_f (σ' := uI (uI τ 4006 (L.1 1)) 4007 (L.1 2)) (o' := o) (mk' := mk) (p' := p) h1 (fun j hj => by rw [uI_o (by omega), uI_o (by omega)]) rfl (by rw [uI_o (by decide), uI_o (by decide)]; exact h1.2.2.2.2.2.1.1) h1.2.2.2.2.2.1.2 (by rw [uI_o (by decide), uI_o (by decide)]; exact h1.2.2.1.1) (Nat.le_refl _) (by rw [uI_o (by omega), uI_o (by omega)]; exact h1.2.2.2.2.2.2.2)
  rw [w]
  have ph := Ph_s (σ := τ) (σ' := uI (uI τ 4006 (L.1 1)) 4007 (L.1 2)) rfl
  exact Qthr hh rfl ⟨fun e => absurd e (by show ¬ 1 = 0; decide), fun _ => ⟨by show 1 + PhC (uI (uI τ 4006 (L.1 1)) 4007 (L.1 2)) ≤ _; omega, by show 6 + PhS (uI (uI τ 4006 (L.1 1)) 4007 (L.1 2)) ≤ _; omega⟩⟩ qf.2
theorem lx_k (h : QS T n b u al tb o q v mk p sz τ) (hk : tkV kk) : τ.1 3702 = cKd kk ↔ tkK T n q = kk := by
  obtain ⟨l1, l2, l3, l4, l5, l6, l7⟩ := h.1
  rw [l6]
  exact ck_e (tk_v l4 l5) hk
/-- fields of the parser's own are set -/
theorem Sx_f (h : Sx T n b u al σ0 nc0 sz0 mk0 a1 a2 tb o q v mk p sz τ) {o' mk' p' : Nat} (f1 : ∀ j, ¬ (j = 404 ∨ (4005 ≤ j ∧ j ≤ 4020 ∧ ¬ j = 4008 ∧ ¬ j = 4009 ∧ ¬ j = 4013) ∨ j = fP b 19) → τ'.1 j = τ.1 j) (f2 : τ'.2 = τ.2) (e5 : τ'.1 4005 = nI o') (ho : o' ≤ 20) (e11 : τ'.1 4011 = nI mk') (hm : mk' ≤ mk) (hm0 : mk0 ≤ mk') (e19 : τ'.1 (fP b 19) = nI p') : Sx T n b u al σ0 nc0 sz0 mk0 a1 a2 tb o' q v mk' p' sz τ' := by
  obtain ⟨h1, h2, h3, h4, h5, h6⟩ := h
  obtain ⟨q1, q2⟩ := QS_f h1 f1 f2 e5 ho e11 hm e19
  have ph := Ph_s (σ := τ) (σ' := τ') (by rw [f2])
  exact ⟨q1, XK_t h2 q2 h4 h5 hm0, ⟨by omega, by omega⟩, h4, h5, hm0⟩
theorem Sx_o (h : Sx T n b u al σ0 nc0 sz0 mk0 a1 a2 tb o q v mk p sz τ) {o' : Nat} (ho : o' ≤ 20) : Sx T n b u al σ0 nc0 sz0 mk0 a1 a2 tb o' q v mk p sz (uI τ 4005 (nI o')) := by
  have fc := fP_c b 19
  exact Sx_f h (fun j hj => uI_o (by omega)) rfl uI_s ho (by rw [uI_o (by decide)]; exact h.1.2.2.1.1) (Nat.le_refl _) h.2.2.2.2.2 (by rw [uI_o (by omega)]; exact h.1.2.2.2.2.2.2.2)
theorem c_expectQ (h : QS T n b u al tb o q v mk p sz τ) (hk : tkV kk) (h1 : L.1 1 = cKd kk) {x : Option Nat} (hx : (¬ (tkK T n q = kk ∧ ¬ tkK T n (tkN T n q) = 0) ∧ x = none) ∨ ((tkK T n q = kk ∧ ¬ tkK T n (tkN T n q) = 0) ∧ x = some (tkN T n q))) : Tm (fun k => f_X5_expect k 0 L τ) (QPo b u tb.length sz mk x (fun q' _ τ' => QS T n b u al tb o q' v mk p sz τ') τ 0 0) := by
  have s0 := Sx_0 h
  refine Tm_suc (fun k => by rw [f_X5_expect]) ?_
  rw [h1]
  refine Tm_ite (fun e => ?_) (fun e => ?_)
  · rw [lx_k h hk] at e
    refine Tm_suc (fun k => by rw [f_X5_expect]) ?_
    refine st_adv (C := x = some (tkN T n q)) s0 ?_ (fun τ' r er c s => ?_)
    · rcases hx with ⟨w1, w2⟩ | ⟨w1, w2⟩
      · left
        exact ⟨Classical.byContradiction (fun z => w1 ⟨e, z⟩), w2⟩
      · exact Or.inr ⟨w1.2, w2⟩
    · rw [c, er]
      exact Tm_some (Qfin s s.1)
  · rw [lx_k h hk] at e
    rcases hx with ⟨w1, w2⟩ | ⟨w1, w2⟩
    · rw [w2]; exact st_ref s0
    · exact absurd w1.1 e
theorem c_wantQ (h : QS T n b u al tb o q v mk p sz τ) (hk : tkV kk) (h1 : L.1 1 = cKd kk) {x : Option Nat} (hx : (¬ tkK T n q = kk ∧ x = none) ∨ (tkK T n q = kk ∧ x = some q)) : Tm (fun k => f_X5_want k 0 L τ) (QPo b u tb.length sz mk x (fun q' _ τ' => τ' = τ) τ 0 0) := by
  have s0 := Sx_0 h
  refine Tm_suc (fun k => by rw [f_X5_want]) ?_
  rw [h1]
  refine Tm_ite (fun e => ?_) (fun e => ?_)
  · rw [lx_k h hk] at e
    refine Tm_suc (fun k => by rw [f_X5_want]) ?_
    rcases hx with ⟨w1, w2⟩ | ⟨w1, w2⟩
    · exact absurd e w1
    · rw [w2]; exact Tm_some (Qfin s0 rfl)
  · rw [lx_k h hk] at e
    rcases hx with ⟨w1, w2⟩ | ⟨w1, w2⟩
    · rw [w2]; exact st_ref s0
    · exact absurd w1 e
theorem c_opensQ (h : QS T n b u al tb o q v mk p sz τ) {x : Option Nat} (hx : (¬ (¬ o = 20 ∧ ¬ tkK T n (tkN T n q) = 0) ∧ x = none) ∨ ((¬ o = 20 ∧ ¬ tkK T n (tkN T n q) = 0) ∧ x = some (tkN T n q))) : Tm (fun k => f_X5_opens k 0 L τ) (QPo b u tb.length sz mk x (fun q' _ τ' => QS T n b u al tb (o + 1) q' v mk p sz τ') τ 0 0) := by
  have s0 := Sx_0 h
  have e5 := h.2.2.2.2.2.1.1
  have o20 := h.2.2.2.2.2.1.2
  refine Tm_suc (fun k => by rw [f_X5_opens]) ?_
  rw [e5]
  refine Tm_ite (fun e => ?_) (fun e => ?_)
  · have e' : nI o < nI 20 := e
    rw [u_ltn (by rw [u_n (by omega)]; omega) (by decide), u_n (by omega), u_n (by decide)] at e'
    refine Tm_suc (fun k => by rw [f_X5_opens]) ?_
    rw [e5, n_add1]
    refine st_adv (C := x = some (tkN T n q)) (Sx_o s0 (o' := o + 1) (by omega)) ?_ (fun τ' r er c s => ?_)
    · rcases hx with ⟨w1, w2⟩ | ⟨w1, w2⟩
      · left
        exact ⟨Classical.byContradiction (fun z => w1 ⟨by omega, z⟩), w2⟩
      · exact Or.inr ⟨w1.2, w2⟩
    · rw [c, er]
      exact Tm_some (Qfin s s.1)
  · have e' : ¬ nI o < nI 20 := e
    rw [u_ltn (by rw [u_n (by omega)]; omega) (by decide), u_n (by omega), u_n (by decide)] at e'
    rcases hx with ⟨w1, w2⟩ | ⟨w1, w2⟩
    · rw [w2]; exact st_ref s0
    · exact absurd (show o = 20 by omega) w1.1
theorem c_closesQ (h : QS T n b u al tb (o + 1) q v mk p sz τ) (hk : tkV kk) (h1 : L.1 1 = cKd kk) {x : Option Nat} (hx : (¬ (tkK T n q = kk ∧ ¬ tkK T n (tkN T n q) = 0) ∧ x = none) ∨ ((tkK T n q = kk ∧ ¬ tkK T n (tkN T n q) = 0) ∧ x = some (tkN T n q))) : Tm (fun k => f_X5_closes k 0 L τ) (QPo b u tb.length sz mk x (fun q' _ τ' => QS T n b u al tb o q' v mk p sz τ') τ 0 0) := by
  have s0 := Sx_0 h
  have e5 := h.2.2.2.2.2.1.1
  have o20 := h.2.2.2.2.2.1.2
  refine Tm_suc (fun k => by rw [f_X5_closes]) ?_
  rw [h1]
  refine Tm_ite (fun e => ?_) (fun e => ?_)
  · rw [lx_k h hk] at e
    refine Tm_suc (fun k => by rw [f_X5_closes]) ?_
    rw [e5, sub1_n (by omega)]
    refine st_adv (C := x = some (tkN T n q)) (Sx_o s0 (o' := o) (by omega)) ?_ (fun τ' r er c s => ?_)
    · rcases hx with ⟨w1, w2⟩ | ⟨w1, w2⟩
      · left
        exact ⟨Classical.byContradiction (fun z => w1 ⟨e, z⟩), w2⟩
      · exact Or.inr ⟨w1.2, w2⟩
    · rw [c, er]
      exact Tm_some (Qfin s s.1)
  · rw [lx_k h hk] at e
    rcases hx with ⟨w1, w2⟩ | ⟨w1, w2⟩
    · rw [w2]; exact st_ref s0
    · exact absurd w1.1 e
end CVE
