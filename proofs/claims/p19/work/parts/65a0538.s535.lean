section JnS535
/-! The class: programs are read: calls whose throws are caught; the statements of the program. -/
section DYM
variable {σ σ' σ0 σ2 τ τ' τ0 : CS} {L L2 : LV} {b pr : Bool} {T : Nat → Int32} {n q q' q0 q1 u al o v v0 v' mk mk' p sz sz0 nc a1 a2 m f w st r0 vg vg' N N0 N1 M j W np pc b0 K : Nat} {y qh : Int32} {l l' cs cs' : List Int32} {tb tb' A B : List Ent} {E E' E0 E1 Ep : En} {bt bt0 : BT} {lo : Option Nat} {md : Nat → Nat} {MD MD' : Nat → Nat → Nat} {c : Ct} {g : PRG} {s : SB} {F : Nat → Int32} {α β : Type} {x : Fl α} {S : α → CS → Prop}
theorem Tm_oh {gg : Nat → Option RS} {f g : Nat → RS → Option RS} {P Q : RS → Prop} (t : Tm gg P) (h1 : ∀ r, P r → ¬ r.1.1 = 0 → r.1.1 = 1) (h0 : ∀ r, P r → r.1.1 = 0 → Tm (fun k => f k r) (fun q => Q (q.1, q.2.1, (r.2.2.1 + q.2.2.1, r.2.2.2 + q.2.2.2)))) (hc : ∀ r, P r → r.1.1 = 1 → Tm (fun k => g k r) (fun q => Q (q.1, q.2.1, (r.2.2.1 + q.2.2.1, r.2.2.2 + q.2.2.2)))) : Tm (fun k => oh (gg k) (f k) (g k)) Q := by
  obtain ⟨r, k0, y1, y2⟩ := t
  by_cases e : r.1.1 = 0
  · obtain ⟨q, k1, y3, y4⟩ := h0 r y2 e
    refine ⟨(q.1, q.2.1, (r.2.2.1 + q.2.2.1, r.2.2.2 + q.2.2.2)), max k0 k1, fun k hk => ?_, y4⟩
    show oh (gg k) (f k) (g k) = _
    rw [y1 k (by omega)]
    show (if r.1.1 = 0 then adR r.2.2 (f k r) else if r.1.1 = 1 then adR r.2.2 (g k r) else none) = _
    rw [if_pos e, show f k r = some q from y3 k (by omega)]; rfl
  · have e1 := h1 r y2 e
    obtain ⟨q, k1, y3, y4⟩ := hc r y2 e1
    refine ⟨(q.1, q.2.1, (r.2.2.1 + q.2.2.1, r.2.2.2 + q.2.2.2)), max k0 k1, fun k hk => ?_, y4⟩
    show oh (gg k) (f k) (g k) = _
    rw [y1 k (by omega)]
    show (if r.1.1 = 0 then adR r.2.2 (f k r) else if r.1.1 = 1 then adR r.2.2 (g k r) else none) = _
    rw [if_neg e, if_pos e1, show g k r = some q from y3 k (by omega)]; rfl
theorem c_note : Tm (fun k => y_X5_noteFault k 0 L σ) (fun r => (∀ j, ¬ (j = 4006 ∨ j = 4007) → r.2.1 j = σ.1 j) ∧ r.2.2 = σ.2 ∧ ∀ y, FltC y σ → r.2.1 4006 = nI y.1 ∧ r.2.1 4007 = nI y.2) := by
  refine Tm_suc (fun k => by rw [y_X5_noteFault]) ?_
  refine Tm_ite (fun e0 => ?_) (fun e0 => ?_)
  · refine Tm_suc (fun k => by rw [y_X5_noteFault]) ?_
    refine Tm_some ⟨fun j hj => by rw [uI_o (by omega), uI_o (by omega)], rfl, fun y hy => ?_⟩
    rcases hy with ⟨z1, _, z3, z4⟩ | ⟨z1, _, z3⟩
    · exfalso
      have e0' : σ.1 4006 = 0 := e0
      rw [z1, n_eq0 (by omega)] at e0'
      omega
    · refine ⟨?_, ?_⟩
      · rw [uI_o (by decide), uI_s, z1]; rfl
      · rw [uI_s]; exact z3
  · refine Tm_suc (fun k => by rw [y_X5_noteFault]) ?_
    refine Tm_some ⟨fun j hj => rfl, rfl, fun y hy => ?_⟩
    rcases hy with ⟨z1, z2, _⟩ | ⟨_, z2, _⟩
    · exact ⟨z1, z2⟩
    · exact absurd z2 e0
theorem DK_n (h : DK b sz σ τ) (f1 : ∀ j, ¬ (4003 ≤ j ∧ j ≤ 4020) → τ'.1 j = τ.1 j) (f2 : τ'.2 = τ.2) : DK b sz σ τ' := by
  obtain ⟨a', r'⟩ := τ'
  obtain ⟨a0, r0⟩ := τ
  have e : r' = r0 := f2
  subst e
  exact ⟨⟨fun j hj => (f1 j (by omega)).trans (h.1.1 j hj), h.1.2⟩, h.2⟩
/-- what a method leaves that catches what is thrown in it -/
def RPo (b : Bool) (sz0 : Nat) {α : Type} (x : Fl α) (S : α → CS → Prop) (σ0 : CS) (a1 a2 : Nat) (r : RS) : Prop := r.1.1 = 0 ∧ (∀ t, x = Sum.inr t → r.1.2 = 1 ∧ S t r.2.1 ∧ r.2.1.1 4006 = 0) ∧ (∀ y, x = Sum.inl y → r.1.2 = 0 ∧ r.2.1.1 4006 = nI y.1 ∧ r.2.1.1 4007 = nI y.2) ∧ (a1 + r.2.2.1 + PhC r.2.1 ≤ PhC σ0 + 1 ∧ a2 + r.2.2.2 + PhS r.2.1 ≤ PhS σ0 + 6) ∧ DK b sz0 σ0 r.2.1
theorem RPo_s {n1 n2 : Nat} {r : RS} (h : RPo b sz0 x S σ0 (a1 + n1) (a2 + n2) r) : RPo b sz0 x S σ0 a1 a2 (r.1, r.2.1, (n1 + r.2.2.1, n2 + r.2.2.2)) := by
  obtain ⟨h1, h2, h3, h4, h5⟩ := h
  refine ⟨h1, h2, h3, ?_, h5⟩
  show a1 + (n1 + r.2.2.1) + PhC r.2.1 ≤ PhC σ0 + 1 ∧ a2 + (n2 + r.2.2.2) + PhS r.2.1 ≤ PhS σ0 + 6
  omega
/-- a call within try -/
theorem rt_callD {z : Fl β} {R : β → Int32 → CS → Prop} {gg : Nat → Option RS} {f : Nat → RS → Option RS} (h : Dy b σ0 sz0 a1 a2 τ) (hs : sz0 ≤ sz) (t : Tm gg (DPo b sz z R τ 0 0)) (hx : (∃ ye, z = Sum.inl ye ∧ x = Sum.inl ye) ∨ ∃ s, z = Sum.inr s ∧ ∀ (τ' : CS) (ret : Int32) (n1 n2 : Nat), R s ret τ' → DK b sz τ τ' → Dy b σ0 sz0 (a1 + n1) (a2 + n2) τ' → Tm (fun k => f k ((0, ret), τ', (n1, n2))) (RPo b sz0 x S σ0 (a1 + n1) (a2 + n2))) : Tm (fun k => oh (gg k) (f k) (fun r => op (y_X5_noteFault k 0 lZ r.2.1) (fun r2 => some ((0, 0), r2.2, (0, 0))))) (RPo b sz0 x S σ0 a1 a2) := by
  obtain ⟨h1, h2, h3⟩ := h
  refine Tm_oh (g := fun k r => op (y_X5_noteFault k 0 lZ r.2.1) (fun r2 => some ((0, 0), r2.2, (0, 0)))) t (fun r w nz => ?_) (fun r w e0 => ?_) (fun r w e1 => ?_)
  · cases z with
    | inl yf => exact (w.2.1 _ rfl).1
    | inr s => exact absurd (w.1 s rfl).1 nz
  · rcases hx with ⟨y0, e1, e2⟩ | ⟨s, e1, cont⟩
    · exact absurd (w.2.1 y0 e1).1 (by rw [e0]; decide)
    · have y := w.2.2.1 e0
      have k := cont r.2.1 r.1.2 r.2.2.1 r.2.2.2 (w.1 s e1).2 w.2.2.2.2 ⟨DK_t h1 w.2.2.2.2 hs, by omega, by omega⟩
      have er : ((0, r.1.2), r.2.1, (r.2.2.1, r.2.2.2)) = r := by
        rw [← e0]
      rw [er] at k
      exact Tm_mono k (fun q z => RPo_s z)
  · rcases hx with ⟨y0, e2, e3⟩ | ⟨s, e2, _⟩
    · refine Tm_op c_note (fun r2 w2 => Tm_some ?_)
      have y := w.2.2.2.1 (by rw [e1]; decide)
      have ph := Ph_s (σ := r.2.1) (σ' := r2.2) (by rw [w2.2.1])
      rw [e3]
      refine ⟨rfl, fun t e => (by cases e), fun y e => by cases e; exact ⟨rfl, w2.2.2 y0 (w.2.1 y0 e2).2⟩, ?_, DK_n (DK_t h1 w.2.2.2.2 hs) (fun j hj => w2.1 j (by omega)) w2.2.1⟩
      show a1 + (r.2.2.1 + 0) + PhC r2.2 ≤ PhC σ0 + 1 ∧ a2 + (r.2.2.2 + 0) + PhS r2.2 ≤ PhS σ0 + 6
      omega
    · exact absurd (w.1 s e2).1 (by rw [e1]; decide)
theorem rt_callZ {z : Fl β} {R : β → Int32 → CS → Prop} {gg : Nat → Option RS} {f : Nat → RS → Option RS} (h : Dy b σ0 sz0 a1 a2 τ) (hs : sz0 ≤ sz) (t : Tm gg (ZPo b u nc sz mk z R τ 0 0)) (hx : (∃ ye, z = Sum.inl ye ∧ x = Sum.inl ye) ∨ ∃ s, z = Sum.inr s ∧ ∀ (τ' : CS) (ret : Int32) (n1 n2 : Nat), R s ret τ' → ZK b u nc sz mk τ τ' → Dy b σ0 sz0 (a1 + n1) (a2 + n2) τ' → Tm (fun k => f k ((0, ret), τ', (n1, n2))) (RPo b sz0 x S σ0 (a1 + n1) (a2 + n2))) (hu : ¬ u = 41 := by omega) : Tm (fun k => oh (gg k) (f k) (fun r => op (y_X5_noteFault k 0 lZ r.2.1) (fun r2 => some ((0, 0), r2.2, (0, 0))))) (RPo b sz0 x S σ0 a1 a2) :=
  rt_callD (R := fun s y τ' => R s y τ' ∧ ZK b u nc sz mk τ τ') h hs (Tm_mono t (fun r w => ⟨fun t e => ⟨(w.1 t e).1, (w.1 t e).2, w.2.2.2.2⟩, w.2.1, w.2.2.1, w.2.2.2.1, DK_Z w.2.2.2.2 hu⟩)) (hx.imp id (fun ⟨s, e, c⟩ => ⟨s, e, fun τ' ret n1 n2 r _ dy => c τ' ret n1 n2 r.1 r.2 dy⟩))
theorem rt_callQ {z : Fl β} {R : β → Int32 → CS → Prop} {gg : Nat → Option RS} {f : Nat → RS → Option RS} (h : Dy b σ0 sz0 a1 a2 τ) (hs : sz0 ≤ sz) (t : Tm gg (QPo b u nc sz mk z R τ 0 0)) (hx : (∃ ye, z = Sum.inl ye ∧ x = Sum.inl ye) ∨ ∃ s, z = Sum.inr s ∧ ∀ (τ' : CS) (ret : Int32) (n1 n2 : Nat), R s ret τ' → XK b u nc sz mk τ τ' → Dy b σ0 sz0 (a1 + n1) (a2 + n2) τ' → Tm (fun k => f k ((0, ret), τ', (n1, n2))) (RPo b sz0 x S σ0 (a1 + n1) (a2 + n2))) : Tm (fun k => oh (gg k) (f k) (fun r => op (y_X5_noteFault k 0 lZ r.2.1) (fun r2 => some ((0, 0), r2.2, (0, 0))))) (RPo b sz0 x S σ0 a1 a2) :=
  rt_callD (R := fun s y τ' => R s y τ' ∧ XK b u nc sz mk τ τ') h hs (Tm_mono t (fun r w => ⟨fun t e => ⟨(w.1 t e).1, (w.1 t e).2, w.2.2.2.2⟩, w.2.1, w.2.2.1, w.2.2.2.1, DK_X w.2.2.2.2⟩)) (hx.imp id (fun ⟨s, e, c⟩ => ⟨s, e, fun τ' ret n1 n2 r _ dy => c τ' ret n1 n2 r.1 r.2 dy⟩))
theorem Rfin {t : α} (h : Dy b σ0 sz0 a1 a2 τ) (hs : S t τ) (h6 : τ.1 4006 = 0) : RPo b sz0 (Sum.inr t) S σ0 a1 a2 ((0, 1), τ, (0, 0)) := ⟨rfl, fun t' e => by cases e; exact ⟨rfl, hs, h6⟩, fun y e => (by cases e), ⟨by have := h.2.1; show a1 + 0 + PhC τ ≤ _; omega, by have := h.2.2; show a2 + 0 + PhS τ ≤ _; omega⟩, h.1⟩
/-- a program as it is read: its code from N0 on -/
def PFn (b : Bool) (N0 K : Nat) (g : PRG) (σ : CS) : Prop := ∃ (c : Ct) (N vg e0 : Nat), (CdL b N σ ∧ TbR b (tbE 0 g.2.1) σ ∧ DE g.2.1 0 vg g.2.2.2.1 vg) ∧ (σ.1 (fP b 12) = nI g.2.2.2.1 ∧ σ.2.2.1 (pR18 b) 41 = 0 ∧ σ.2.2.1 (pR18 b) 0 = nI vg) ∧ UTb b g.2.2.2.1 c g.2.2.1 σ ∧ PgT g.2.1 vg g.2.2.2.1 N0 vg c ∧ (tcN c = N ∧ (N0 ≤ e0 ∧ e0 < N) ∧ ∀ i, N0 ≤ i → i < N → cdr b σ i = tcC c i) ∧ (σ.1 (fP b 2) = nI e0 ∧ tcD c e0 = some (0, 0, (bsl + vg) :: Vl vg, 2)) ∧ 2 * N + 108 ≤ K
/-- what the grammar has behind the declarations -/
def gPe (T : Nat → Int32) (n : Nat) (g : PRG) : Option (Fl (PRG × ST)) := pb (GS T n g.2.2.1 (fu n) 0 g.2.1 0 0 g.1 g.2.2.2.2.2.1 (-1) 0 0 g.2.2.2.2.2.2.1 g.2.2.2.2.2.2.2.1) (fun t => if tkK T n t.1 = 25 then some (Sum.inr (g, t)) else some (Sum.inl (2, t.1)))
/-- unit 0 begins -/
theorem un_0 (h : PgT E vg nc N0 W c) (hN0 : N0 ≤ tcN c) : TI noP noP nc RK (mkc c (tcC c) (tcN c) (fun p => if p = tcN c then some (0, 0, (bsl + W) :: Vl W, 2) else tcD c p)) ∧ PgU E vg nc N0 W (mkc c (tcC c) (tcN c) (fun p => if p = tcN c then some (0, 0, (bsl + W) :: Vl W, 2) else tcD c p)) := by
  obtain ⟨t, hD, pg⟩ := h
  refine ⟨TI_tb (On := False) (y := some (0, 0, (bsl + W) :: Vl W, 2)) t (fun _ _ => rfl) rfl (fun u => Or.inl (CtG_r noP u nc c)) (Nat.le_refl _) (Or.inl hD) (fun p => rfl) (fun p => ⟨fun z => z.elim, fun z => z.elim id (fun w => w.2)⟩) (fun z => z.elim) (Nat.le_refl _), PgU_k pg (Nat.le_refl _) (fun q y e => ?_) (fun q y e => ?_)⟩
  · show (if q = tcN c then some (0, 0, (bsl + W) :: Vl W, 2) else tcD c q) = some y
    rw [if_neg (fun z => by rw [z, hD] at e; cases e)]
    exact e
  · by_cases z : q = tcN c
    · omega
    · have e' : (if q = tcN c then some (0, 0, (bsl + W) :: Vl W, 2) else tcD c q) = some y := e
      rw [if_neg z] at e'
      exact pg.1 q y e'
/-- the statements of the program, and its end -/
theorem c_rp2 {X : Fl (PRG × ST)} (h : DSt T n b N0 W K g τ) (hp4 : τ.1 (fP b 4) = nI g.2.2.2.2.1) (hW : W = g.2.2.2.2.2.1) (dy : Dy b σ0 N0 a1 a2 τ) (hL : L.2.2.1 1 = b) (hG : gPe T n g = some X) : Tm (fun k => f_X5_readProgram__P k 2 L τ) (RPo b N0 X (fun t τ' => PFn b N0 K t.1 τ' ∧ τ'.1 (fP b 3) = nI t.2.2.2.2.2.2.1 ∧ τ'.2.2.1 (pR16 b) 0 = nI t.2.2.1 ∧ τ'.1 (fP b 4) = nI t.1.2.2.2.2.1) σ0 a1 a2) := by
  obtain ⟨c, N, vg, ⟨h1, h2, h3⟩, ⟨h4, h5, h6, h41⟩, ut, pg, ⟨eN, hN0, hcd⟩, ⟨bd1, bd2, bd3, bd4, hK⟩⟩ := h
  have hGe : pb (GS T n g.2.2.1 (fu n) 0 g.2.1 0 0 g.1 g.2.2.2.2.2.1 (-1) 0 0 g.2.2.2.2.2.2.1 g.2.2.2.2.2.2.2.1) (fun t => if tkK T n t.1 = 25 then some (Sum.inr (g, t)) else some (Sum.inl (2, t.1))) = some X := hG
  have eg : ∀ t τ', (X = Sum.inr t → t.1 = g) → (PFn b N0 K g τ' → X = Sum.inr t → PFn b N0 K t.1 τ') := fun t τ' e z w => by rw [e w]; exact z
  have evg : vg = g.2.2.2.2.2.1 := (h3.1.2.1 rfl).2
  have e2 : g.2.1.2.1 = [] := (h3.1.2.1 rfl).1
  have qn : g.1 ≤ n := h1.1.2.2.2.1
  have v60 : g.2.2.2.2.2.1 ≤ 60 := h3.2.1.2.2.2
  have nc40 : g.2.2.2.1 ≤ 40 := h3.2.1.2.2.1
  have tl : (tbE 0 g.2.1).length = g.2.1.1.length := by rw [tbE_l, e2]; rfl
  have el := h3.2.1
  have fn := fP_ns b
  have f9 := fP_19 b
  have e1N : τ.1 (fP b 1) = nI N := h1.2.1.1
  refine Tm_suc (fun k => by rw [f_X5_readProgram__P]) ?_
  rw [hL, e1N]
  have h16 := h1.2.2.2.2.2.2.1.1
  obtain ⟨q1, dk1⟩ := QS_ww (σ' := uI τ (fP b 2) (nI N)) (u' := 0) (al' := 2) (v' := g.2.2.2.2.2.1) (p' := 0) h1 (fun j hj => uI_o (by omega)) rfl (fun _ _ => rfl) rfl (by rw [uI_o (by omega)]; exact h1.2.2.2.2.1.2.1) (by rw [uI_o (by omega)]; exact h1.2.2.2.2.1.2.2.1) h16 v60 (by rw [uI_o (by omega)]; exact h1.2.2.2.2.2.2.2)
  have zf1 : ZF b 0 g.2.2.2.2.2.1 g.2.2.2.2.2.2.2.1.1 none 0 (uI τ (fP b 2) (nI N)) := ⟨h2.1, ⟨by rw [uI_o (by omega)]; exact h2.2.1.1, h2.2.1.2⟩, by rw [uI_o (by omega)]; exact h2.2.2.1, by rw [uI_o (by omega)]; exact h2.2.2.2.1, h2.2.2.2.2⟩
  have ph1 := Ph_s (σ := τ) (σ' := uI τ (fP b 2) (nI N)) rfl
  have dy1 : Dy b σ0 N0 a1 a2 (uI τ (fP b 2) (nI N)) := ⟨DK_t dy.1 dk1 hN0, by have := dy.2.1; omega, by have := dy.2.2; omega⟩
  obtain ⟨ti, pgu⟩ := un_0 pg (by omega)
  have sx := StX_P (σ := uI τ (fP b 2) (nI N)) h3 pg.2.2 ut (by omega) h4 h5 bd4
  have cx : CxS n g.2.1 b 0 2 (glD g.2.1 vg) (VmD g.2.2.2.2.2.1) (PcD g.2.1) g.2.2.1 (tbE 0 g.2.1) 0 none (uI τ (fP b 2) (nI N)) := ⟨sx, h3.1.1, by omega, ⟨fun _ => rfl, fun _ => rfl⟩, fun p e => by cases e⟩
  have bdb : BdB n 0 g.1 g.2.2.2.2.2.1 0 N g.2.2.2.2.2.1 (tbE 0 g.2.1).length := ⟨by omega, by omega, by omega, by omega⟩
  have gz : ∃ x, GS T n g.2.2.1 (fu n) 0 g.2.1 0 0 g.1 g.2.2.2.2.2.1 (-1) 0 0 g.2.2.2.2.2.2.1 g.2.2.2.2.2.2.2.1 = some x := by
    rcases pb_any hGe with ⟨yf, z, _⟩ | ⟨t, z, _⟩
    · exact ⟨_, z⟩
    · exact ⟨_, z⟩
  obtain ⟨xs, hxs⟩ := gz
  obtain ⟨z, bem, blk⟩ := PBk_all (T := T) (n := n) (b := b) (u := 0) (al := 2) (MD := g.2.2.1) (fu n) g.2.1 0 0 g.1 g.2.2.2.2.2.1 (-1) 0 0 g.2.2.2.2.2.2.1 g.2.2.2.2.2.2.2.1 xs qn v60 bd3 bd2 hxs
  have t0 := blk 120 (glD g.2.1 vg) (PcD g.2.1) (VmD g.2.2.2.2.2.1) (tbE 0 g.2.1) 0 N g.2.2.2.2.2.1 none 0 (uI τ (fP b 2) (nI N)) lZ q1 zf1 cx bdb (by omega)
  rw [hxs] at hGe
  rcases bem with ⟨ye, z1, z2⟩ | ⟨r, z1, z2⟩
  · rw [z2] at hGe
    rw [(Option.some.inj hGe).symm]
    rw [z1] at t0
    exact rt_callZ (z := Sum.inl _) dy1 hN0 t0 (Or.inl ⟨_, rfl, rfl⟩)
  rw [z1] at t0
  refine rt_callZ (z := Sum.inr r) dy1 hN0 t0 (Or.inr ⟨_, rfl, fun τ1 ret1 n1 n2 r1 zk1 dy2 => ?_⟩)
  obtain ⟨cs, qs, ns, q2, cd1, zf2, sm, js, ⟨ln, lns, lqs⟩, lq, lv⟩ := r1
  have qs0 : qs = [] := List.eq_nil_of_length_eq_zero (Nat.le_zero.1 lqs)
  rw [qs0] at sm zf2 js
  have r1n : r.1 ≤ n := q2.1.2.2.2.1
  have hNc : N0 ≤ N + cs.length := by omega
  rcases z2 with ⟨z3, z4⟩ | ⟨t, z3, z4, z5, z6⟩
  · rw [z3] at hGe
    rw [(Option.some.inj hGe).symm]
    exact rt_callQ (z := Sum.inl _) dy2 hNc (c_wantQ (kk := 25) q2 (by decide) rfl (Or.inl ⟨fun e => z4 (Or.inl e), rfl⟩)) (Or.inl ⟨_, rfl, rfl⟩)
  rw [z3] at hGe
  have hG2 : (if tkK T n t.1 = 25 then some (Sum.inr (g, t)) else some (Sum.inl (2, t.1))) = some X := hGe
  rw [z4] at hG2
  by_cases k25 : ¬ tkK T n r.1 = 25
  · rw [if_neg k25] at hG2
    rw [(Option.some.inj hG2).symm]
    exact rt_callQ (z := Sum.inl _) dy2 hNc (c_wantQ (kk := 25) q2 (by decide) rfl (Or.inl ⟨k25, rfl⟩)) (Or.inl ⟨_, rfl, rfl⟩)
  have k25 := Classical.not_not.1 k25
  rw [if_pos k25] at hG2
  rw [(Option.some.inj hG2).symm]
  refine rt_callQ (z := Sum.inr _) dy2 hNc (c_wantQ (kk := 25) q2 (by decide) rfl (Or.inr ⟨k25, rfl⟩)) (Or.inr ⟨_, rfl, fun τ2 ret2 n3 n4 r2 xk2 dy3 => ?_⟩)
  have r2' : τ2 = τ1 := r2
  rw [r2'] at dy3 ⊢
  refine rt_callQ (z := Sum.inr ()) dy3 hNc (c_emitQ (oq := 1) q2 rfl rfl (by omega)) (Or.inr ⟨_, rfl, fun τ4 ret4 n7 n8 r4 xk4 dy4 => ?_⟩)
  obtain ⟨q4, cd4⟩ := r4
  have e4p : τ4.1 (fP b 4) = nI g.2.2.2.2.1 := (xk4.1.1 (fP b 4) (by cases b <;> decide)).trans ((zk1.1.1 (fP b 4) (by cases b <;> decide)).trans ((uI_o (by cases b <;> decide)).trans hp4))
  refine Tm_some (Rfin dy4 ⟨?_, ((ZF_k zf2 xk4).2.1.1).trans (by rw [← z6]), q4.2.2.2.2.2.2.1.1.trans (by rw [← z5]), e4p⟩ q4.2.2.2.2.1.2.2.2)
  show PFn b N0 K g τ4
  have zk4 := ZK_t zk1 (ZK_of xk4) (Nat.le_refl _) (Nat.le_add_right _ _) (Nat.le_refl _)
  have eNu : tcN (mkc c (tcC c) (tcN c) (fun p => if p = tcN c then some (0, 0, (bsl + W) :: Vl W, 2) else tcD c p)) = N := eN
  have hF0 : tcF c 0 = g.2.2.2.2.2.1 := by rw [pg.2.2.2.1.1.2, hW]
  have hD0 : tcD (mkc c (tcC c) (tcN c) (fun p => if p = tcN c then some (0, 0, (bsl + W) :: Vl W, 2) else tcD c p)) N = some (0, 0, (bsl + g.2.2.2.2.2.1) :: Vl g.2.2.2.2.2.1, 2) := by
    show (if N = tcN c then some (0, 0, (bsl + W) :: Vl W, 2) else tcD c N) = _
    rw [if_pos eN.symm, hW]
  have hC1 : ∀ i, i < N → cdX N0 c b τ4 i = tcC c i := fun i hi => by
    by_cases z : i < N0
    · show (if i < N0 then tcC c i else cdr b τ4 i) = _
      rw [if_pos z]
    · rw [cdX_2 (by omega), (xk4.2.2.2.2.2.1 i (by omega)).1, (zk1.2.2.2.2.2.1 i hi).1]
      exact hcd i (by omega) hi
  have cdA : ∀ i, i < cs.length → cdX N0 c b τ4 (N + i) = cs.getD i 0 := fun i hi => by
    rw [cdX_2 (by omega), (xk4.2.2.2.2.2.1 (N + i) (by omega)).1]
    exact cd1 i hi
  have st4 := zf2.2.1.2
  obtain ⟨D, pgt, hDe⟩ := Un_0 (C := cdX N0 c b τ4) (cs := cs) (F := g.2.2.2.2.2.1) (Bd := bdO 0 g.2.2.2.2.2.1) (ns := ns) ti pgu nc40 hF0 (by omega) (by show (if tcN c = tcN c then some (0, 0, (bsl + W) :: Vl W, 2) else tcD c (tcN c)) = _; rw [if_pos rfl, hW]) (by rw [eNu]; exact hN0) (by rw [eNu]; exact sm) (by unfold bdO; omega) (by omega) (by rw [eNu]; omega) (by rw [eNu]; exact hC1) (by rw [eNu]; exact cdA) (by rw [eNu, cdX_2 (by omega)]; exact cd4)
  rw [eNu] at pgt hDe
  have zf4 : ZF b 0 g.2.2.2.2.2.1 r.2.2 none 0 τ4 := ZF_k zf2 xk4
  have e4 : ∀ j, ¬ (j = fP b 1 ∨ j = fP b 3 ∨ j = fP b 11 ∨ j = fP b 19) → fP b 1 ≤ j → j ≤ fP b 19 → τ4.1 j = (uI τ (fP b 2) (nI N)).1 j := fun j hj a1 a2 => zk4.1.1 j (by omega)
  have ut4 : UTb b g.2.2.2.1 (mkc c (cdX N0 c b τ4) (N + cs.length + 1) D) g.2.2.1 τ4 := by
    intro i hi
    have e13 := ZK_13 zk4
    obtain ⟨⟨y1, y2, y3⟩, y4⟩ := ut i hi
    refine ⟨⟨by rw [e13.1]; exact y1, by rw [e13.2.1]; exact y2, ?_⟩, fun j hj => by rw [e13.2.2]; exact y4 j hj⟩
    rw [(UnK_Z zk4 (i + 1) (by omega)).2.2]
    exact y3
  subst evg
  rw [hW] at pgt
  refine ⟨mkc c (cdX N0 c b τ4) (N + cs.length + 1) D, N + cs.length + 1, g.2.2.2.2.2.1, N, ⟨q4.2.1, q4.2.2.2.1, h3⟩, ⟨by rw [ZK_12 zk4, uI_o (by omega)]; exact h6, ?_, zf4.1⟩, ut4, pgt, ⟨rfl, ⟨hN0, by omega⟩, fun i a1 a2 => (cdX_2 a1).symm⟩, ⟨by rw [e4 _ (by omega) (by omega) (by omega), uI_s], hDe⟩, by omega⟩
  rw [(UnK_Z zk4 41 (by omega)).2.2]
  exact h41
end DYM
end JnS535
section JnS536
/-! The class: programs are read: declarations one after another. -/
section DYN
variable {σ σ' σ0 σ2 τ τ' τ0 : CS} {L L2 : LV} {b pr : Bool} {T : Nat → Int32} {n q q' q0 q1 u al o v v0 v' mk mk' p sz sz0 nc a1 a2 m f w st r0 vg vg' N N0 N1 M j W np pc b0 K : Nat} {y qh : Int32} {l l' cs cs' : List Int32} {tb tb' A B : List Ent} {E E' E0 E1 Ep : En} {bt bt0 : BT} {lo : Option Nat} {md : Nat → Nat} {MD MD' : Nat → Nat → Nat} {c : Ct} {g : PRG} {s : SB} {F : Nat → Int32} {X : Fl (PRG × ST)}
theorem ck_dB : ∀ k : Nat, k < 85 → (!(decide (tkV k) && !(decide (k = 32) || decide (k = 33) || decide (k = 34))) || (decide (cKd k < 32) || decide (34 < cKd k))) = true := by decide +kernel
theorem ck_d {k : Nat} (hk : tkV k) (h : ¬ (k = 32 ∨ k = 33 ∨ k = 34)) : cKd k < 32 ∨ 34 < cKd k := by
  have z := ck_dB k (by omega)
  rw [decide_eq_true hk, decide_eq_false (fun e => h (Or.inl e)), decide_eq_false (fun e => h (Or.inr (Or.inl e))), decide_eq_false (fun e => h (Or.inr (Or.inr e)))] at z
  by_cases e : cKd k < 32
  · exact Or.inl e
  · rw [decide_eq_false e] at z
    exact Or.inr (of_decide_eq_true z)
/-- variables never get fewer -/
theorem gCal_v {pr : Bool} {q : Nat} {g : PRG} (h : gCal T n pr E MD nc pc v bt s F q = some (Sum.inr g)) : g.2.2.2.2.2.1 = v := by
  unfold gCal at h
  rcases pT_any h with ⟨_, y⟩ | ⟨_, h⟩
  · cases y
  by_cases c1 : nmC T n E nc (tkN T n q)
  · rw [if_pos c1] at h
    rcases pT_any h with ⟨_, y⟩ | ⟨_, h⟩
    · cases y
    by_cases c2 : tkK T n (tkN T n (tkN T n q)) = 6
    · rw [if_pos c2] at h
      unfold gCb at h
      rcases pT_any h with ⟨_, y⟩ | ⟨_, h⟩
      · cases y
      rcases pb_any h with ⟨yf, _, y⟩ | ⟨a, ha, h⟩
      · cases y
      rcases pT_any h with ⟨_, y⟩ | ⟨_, h⟩
      · cases y
      rcases pb_any h with ⟨yf, _, y⟩ | ⟨z, hz, h⟩
      · cases y
      obtain rfl := Sum.inr.inj (Option.some.inj h)
      rfl
    · rw [if_neg c2] at h; cases h
  · rw [if_neg c1] at h; cases h
theorem gds_v : ∀ (f : Nat) (g h : PRG), GDs T n f g = some (Sum.inr h) → PL n g → g.2.2.2.2.2.1 ≤ h.2.2.2.2.2.1
  | 0, g, h, hG, _ => by cases hG
  | f + 1, g, h, hG, hP => by
    have ih := gds_v f
    obtain ⟨p1, p2, p3, p4, p5, p6, p7⟩ := hP
    have hN := tkN_b T n g.1 p1
    rw [GDs] at hG
    by_cases c1 : tkK T n g.1 = 32
    · rw [if_pos c1] at hG
      rcases pb_any hG with ⟨yf, _, y⟩ | ⟨r, hr, hG⟩
      · cases y
      rcases pT_any hr with ⟨_, y⟩ | ⟨_, hr⟩
      · cases y
      obtain ⟨m1, m2, m3, m4, m5, m6, m7, m8, _⟩ := gvr_mo _ _ _ _ _ _ hN.2.1 p5 hr
      have z := ih _ _ hG ⟨m2, by show 1 ≤ r.2.2.2.1; omega, by show r.2.2.2.1 ≤ 1 + r.1; omega, by show r.2.2.2.2.1 ≤ r.1; omega, m4, p6, by show r.2.1.2.2.2.1 = 0; rw [m8]; exact p7⟩
      exact Nat.le_trans m3 z
    · rw [if_neg c1] at hG
      by_cases c2 : tkK T n g.1 = 34 ∨ tkK T n g.1 = 33
      · rw [if_pos c2] at hG
        rcases pb_any hG with ⟨yf, _, y⟩ | ⟨r, hr, hG⟩
        · cases y
        have z := ih _ _ hG (gCal_mo p1 p5 p2 p6 ⟨p3, p4⟩ hr).2
        rw [gCal_v hr] at z
        exact z
      · rw [if_neg c2] at hG
        obtain rfl := Sum.inr.inj (Option.some.inj hG)
        exact Nat.le_refl _
/-- procs: one more behind a proc -/
theorem gCal_p {pr : Bool} {q : Nat} {g : PRG} (h : gCal T n pr E MD nc pc v bt s F q = some (Sum.inr g)) : g.2.2.2.2.1 = if pr = true then pc + 1 else pc := by
  unfold gCal at h
  rcases pT_any h with ⟨_, y⟩ | ⟨_, h⟩
  · cases y
  by_cases c1 : nmC T n E nc (tkN T n q)
  · rw [if_pos c1] at h
    rcases pT_any h with ⟨_, y⟩ | ⟨_, h⟩
    · cases y
    by_cases c2 : tkK T n (tkN T n (tkN T n q)) = 6
    · rw [if_pos c2] at h
      unfold gCb at h
      rcases pT_any h with ⟨_, y⟩ | ⟨_, h⟩
      · cases y
      rcases pb_any h with ⟨yf, _, y⟩ | ⟨a, ha, h⟩
      · cases y
      rcases pT_any h with ⟨_, y⟩ | ⟨_, h⟩
      · cases y
      rcases pb_any h with ⟨yf, _, y⟩ | ⟨z, hz, h⟩
      · cases y
      obtain rfl := Sum.inr.inj (Option.some.inj h)
      rfl
    · rw [if_neg c2] at h; cases h
  · rw [if_neg c1] at h; cases h
theorem dp_4 {gg : Nat → Option RS} {y : Fl PRG} (t : Tm gg (DPo b N0 y (fun h _ τ' => DSt T n b N0 W K h τ') τ 0 0)) (h : ∀ k r, gg k = some r → r.1.1 = 0 → ∀ h', y = Sum.inr h' → r.2.1.1 (fP b 4) = nI h'.2.2.2.2.1) : Tm gg (DPo b N0 y (fun h _ τ' => DSt T n b N0 W K h τ' ∧ τ'.1 (fP b 4) = nI h.2.2.2.2.1) τ 0 0) :=
  Tm_mono (Tm_pt t h) (fun r w => ⟨fun t e => ⟨(w.1.1 t e).1, (w.1.1 t e).2, w.2 (w.1.1 t e).1 t e⟩, w.1.2.1, w.1.2.2.1, w.1.2.2.2.1, w.1.2.2.2.2⟩)
/-- variables of the program were told: so it stands -/
theorem DSt_v {t : DV} (h : DSt T n b N0 W K g σ) (hq : g.1 < t.1) (hv : t.2.2.1 ≤ W) (hb : 1 ≤ t.2.2.2.1) (zk : ZK b 0 (tbE 0 g.2.1).length N1 0 σ τ) (hN1 : ∀ N, QS T n b 0 2 (tbE 0 g.2.1) 0 g.1 g.2.2.2.2.2.1 0 0 N σ → N1 = N) (r : ∀ nc, nc = g.2.2.2.1 → ∀ vg, DE g.2.1 0 vg nc g.2.2.2.2.2.1 → VrS T n b 0 2 0 0 N1 g.2.2.2.2.2.2.2.1.1 none 0 g.2.1 vg nc g.1 g.2.2.2.2.2.1 t τ) : DSt T n b N0 W K (t.1, t.2.1, g.2.2.1, g.2.2.2.1, g.2.2.2.2.1, t.2.2.1, t.2.2.2, g.2.2.2.2.2.2.2) τ := by
  obtain ⟨c, N, vg, ⟨h1, h2, h3⟩, ⟨h4, h5, h6, h41⟩, ut, pg, ⟨eN, hN0, hcd⟩, ⟨bd1, bd2, bd3, bd4, hK⟩⟩ := h
  obtain ⟨vg', s1, s2, s3, ⟨s4, s4'⟩, s5, s6⟩ := r _ rfl vg h3
  have e1 := hN1 N h1
  rw [e1] at s1 zk
  obtain ⟨x1, x2, x3, x4⟩ := s4
  have evg : vg' = t.2.2.1 := (s3.1.2.1 rfl).2
  refine ⟨c, N, vg', ⟨s1, s2, s3⟩, ⟨by show t.2.1.2.2.2.2.1 = true; rw [x1]; exact h4, by show t.2.1.2.2.2.2.2.1 = true; rw [x1]; exact h5, by rw [ZK_12 zk]; exact h6, by rw [(UnK_Z zk 41 (by omega)).2.2]; exact h41⟩, ?_, ⟨pg.1, pg.2.1, pg.2.2.1, ⟨⟨by rw [evg, pg.2.2.2.1.1.2]; exact hv, pg.2.2.2.1.1.2⟩, pg.2.2.2.1.2⟩, fun i hi => ?_, fun x hx => ?_⟩, ⟨eN, hN0, fun i a1 a2 => ?_⟩, ⟨by show 2 * N + 7 * (n - t.1) + 110 ≤ K; omega, hb, bd3, bd4, hK⟩⟩
  · intro i hi
    have e13 := ZK_13 zk
    obtain ⟨⟨y1, y2, y3⟩, y4⟩ := ut i hi
    refine ⟨⟨by rw [e13.1]; exact y1, by rw [e13.2.1]; exact y2, ?_⟩, fun j hj => by rw [e13.2.2]; exact y4 j hj⟩
    rw [(UnK_Z zk (i + 1) (by omega)).2.2]
    exact y3
  · show tcP c (i + 1) = t.2.1.2.2.2.2.2.2 i ∧ _
    rw [x1]
    exact pg.2.2.2.2.1 i hi
  · rcases x3 x hx with z | z
    · exact pg.2.2.2.2.2 x z
    · exact ⟨fun e => absurd (z.symm.trans e) (by decide), fun e => absurd (z.symm.trans e) (by decide)⟩
  · rw [(zk.2.2.2.2.2.1 i a2).1]
    exact hcd i a1 a2
/-- the declarations, then the rest -/
theorem rp_lp : ∀ (f : Nat) (g : PRG) (x : Fl PRG), GDs T n f g = some x → (∀ ye, x = Sum.inl ye → X = Sum.inl ye) → (∀ h, x = Sum.inr h → gPe T n h = some X) → ((∀ h, x = Sum.inr h → W = h.2.2.2.2.2.1) ∧ (∀ y, x = Sum.inl y → W = 60)) → PL n g → ∀ (a1 a2 : Nat) (L : LV) (τ : CS), DSt T n b N0 W K g τ → Dy b σ0 N0 a1 a2 τ → L.2.2.1 1 = b → uN (L.1 2) ≤ g.1 → τ.1 (fP b 4) = nI g.2.2.2.2.1 → Tm (fun k => f_X5_readProgram__P k 1 L τ) (RPo b N0 X (fun t τ' => PFn b N0 K t.1 τ' ∧ τ'.1 (fP b 3) = nI t.2.2.2.2.2.2.1 ∧ τ'.2.2.1 (pR16 b) 0 = nI t.2.2.1 ∧ τ'.1 (fP b 4) = nI t.1.2.2.2.2.1) σ0 a1 a2)
  | 0, g, x, hG => by cases hG
  | f + 1, g, x, hG => by
    intro hX hY hW hP a1 a2 L τ h dy hL l2 hp4
    have ih := rp_lp f
    have h0 := h
    obtain ⟨c, N, vg, ⟨h1, h2, h3⟩, ⟨h4, h5, h6, h41⟩, ut, pg, ⟨eN, hN0, hcd⟩, ⟨bd1, bd2, bd3, bd4, hK⟩⟩ := h
    obtain ⟨p1, p2, p3, p4, p5, p6, p7⟩ := hP
    have hN := tkN_b T n g.1 p1
    have k0 : ¬ tkK T n g.1 = 0 := h1.1.2.2.2.2.1
    have kv := tk_v p1 k0
    have e2 : τ.1 3702 = cKd (tkK T n g.1) := h1.1.2.2.2.2.2.1
    have nl : ¬ (32768 : Int32) < L.1 2 := fun z => by
      have := (u_ltn (x := 32768) (y := L.1 2) (by decide) (by omega)).1 z
      have e : uN (32768 : Int32) = 32768 := rfl
      omega
    have l2' : ∀ t : Nat, g.1 < t → uN ((lI L 2 (L.1 2 + 1)).1 2) ≤ t := fun t ht => by
      show uN (L.1 2 + 1) ≤ _
      rw [u_inc (by omega)]
      omega
    rw [GDs] at hG
    refine Tm_suc (fun k => by rw [f_X5_readProgram__P]) ?_
    refine Tm_no nl ?_
    by_cases kd : ¬ (tkK T n g.1 = 32 ∨ tkK T n g.1 = 33 ∨ tkK T n g.1 = 34)
    · rw [if_neg (fun z => kd (Or.inl z)), if_neg (fun z => kd (z.elim (fun y => Or.inr (Or.inr y)) (fun y => Or.inr (Or.inl y))))] at hG
      have ex := (Option.some.inj hG).symm
      have t2 := c_rp2 (L := L) h0 hp4 (hW.1 g ex) dy hL (hY g ex)
      rw [e2]
      rcases ck_d kv kd with z | z
      · exact Tm_yes z t2
      · by_cases y : cKd (tkK T n g.1) < 32
        · exact Tm_yes y t2
        · exact Tm_no y (Tm_yes z t2)
    · have kd := Classical.not_not.1 kd
      have c32 : ¬ τ.1 3702 < 32 ∧ ¬ 34 < τ.1 3702 := by
        rw [e2]
        rcases kd with z | z | z <;> rw [z] <;> decide
      refine Tm_no c32.1 (Tm_no c32.2 ?_)
      by_cases k32 : tkK T n g.1 = 32
      · rw [if_pos k32] at hG
        refine Tm_yes ((lx_k (kk := 32) h1 (by decide)).2 k32) ?_
        have gx : ∃ y, pT T n g.1 (fun q1 => GVr T n (fu n) g.2.1 q1 g.2.2.2.2.2.1 g.2.2.2.2.2.2.1) = some y := by
          rcases pb_any hG with ⟨yf, z, _⟩ | ⟨t, z, _⟩
          · exact ⟨_, z⟩
          · exact ⟨_, z⟩
        obtain ⟨y, hy⟩ := gx
        rw [hy] at hG
        have t0 := c_vars (L := lI lZ 1 0) (by decide) h1 h2 h3 rfl hy
        cases y with
        | inl yf =>
          rw [pb_nn] at hG
          have ex := (Option.some.inj hG).symm
          rw [hX _ ex]
          exact rt_callZ (z := Sum.inl _) dy hN0 t0 (Or.inl ⟨_, rfl, rfl⟩)
        | inr t =>
          rw [pb_ss] at hG
          rcases pT_any hy with ⟨_, z⟩ | ⟨_, hr⟩
          · cases z
          obtain ⟨m1, m2, m3, m4, m5, m6, m7, m8, _⟩ := gvr_mo _ _ _ _ _ _ hN.2.1 p5 hr
          have pl : PL n (t.1, t.2.1, g.2.2.1, g.2.2.2.1, g.2.2.2.2.1, t.2.2.1, t.2.2.2, g.2.2.2.2.2.2.2) := ⟨m2, by show 1 ≤ t.2.2.2.1; omega, by show t.2.2.2.1 ≤ 1 + t.1; omega, by show t.2.2.2.2.1 ≤ t.1; omega, m4, p6, by show t.2.1.2.2.2.1 = 0; rw [m8]; exact p7⟩
          have hv : t.2.2.1 ≤ W := by
            cases x with
            | inl yf => rw [hW.2 _ rfl]; exact m4
            | inr h9 => rw [hW.1 h9 rfl]; exact gds_v f _ _ hG pl
          refine rt_callZ (z := Sum.inr t) dy hN0 t0 (Or.inr ⟨_, rfl, fun τ1 ret1 n1 n2 r1 zk1 dy1 => ?_⟩)
          refine Tm_suc (fun k => by rw [f_X5_readProgram__P]) ?_
          refine ih _ x hG hX hY hW pl _ _ (lI L 2 (L.1 2 + 1)) τ1 ?_ dy1 hL (l2' _ (by show g.1 < t.1; omega)) ((zk1.1.1 (fP b 4) (by cases b <;> decide)).trans hp4)
          refine DSt_v h0 (by omega) hv (by omega) zk1 (fun N' y => ?_) (fun nc' e vg1 de => ?_)
          · have a := h1.2.1.1
            have d := y.2.1.1
            rw [a] at d
            have b1 := h1.2.1.2.1
            have b2 := h1.2.1.2.2
            have b3 := y.2.1.2.1
            have lb : ∀ m : Nat, m ≤ cdn b τ → m < 1000000 := fun m hm => by
              rcases b2 with z | ⟨z1, z2⟩
              · omega
              · have e : cdn b τ = 1024 := by
                  show sN τ (pR0 (sKd τ b)) = 1024
                  rcases pR0_c (sKd τ b) with w | w
                  · rw [w]; exact z1
                  · rw [w]; exact z2
                omega
            have w := u_eq.1 d
            rw [u_n (by have := lb _ b1; omega), u_n (by have := lb _ b3; omega)] at w
            exact w
          · have ev : vg1 = vg := (de.1.2.1 rfl).2.trans (h3.1.2.1 rfl).2.symm
            rw [ev, e]
            exact r1
      · rw [if_neg k32] at hG
        have k2 : tkK T n g.1 = 34 ∨ tkK T n g.1 = 33 := by
          rcases kd with z | z | z
          · exact absurd z k32
          · exact Or.inr z
          · exact Or.inl z
        rw [if_pos k2] at hG
        refine Tm_no (fun z => k32 ((lx_k (kk := 32) h1 (by decide)).1 z)) ?_
        refine Tm_suc (fun k => by rw [f_X5_readProgram__P]) ?_
        have gx : ∃ y, gCal T n (decide (tkK T n g.1 = 33)) g.2.1 g.2.2.1 g.2.2.2.1 g.2.2.2.2.1 g.2.2.2.2.2.1 g.2.2.2.2.2.2.1 g.2.2.2.2.2.2.2.1 g.2.2.2.2.2.2.2.2 g.1 = some y := by
          rcases pb_any hG with ⟨yf, z, _⟩ | ⟨t, z, _⟩
          · exact ⟨_, z⟩
          · exact ⟨_, z⟩
        obtain ⟨y, hy⟩ := gx
        rw [hy] at hG
        have fin : ∀ (gg : Nat → Option RS), Tm gg (DPo b N0 y (fun h _ τ' => DSt T n b N0 W K h τ' ∧ τ'.1 (fP b 4) = nI h.2.2.2.2.1) τ 0 0) → Tm (fun k => oh (gg k) (fun r2 => f_X5_readProgram__P k 4 L r2.2.1) (fun r => op (y_X5_noteFault k 0 lZ r.2.1) (fun r2 => some ((0, 0), r2.2, (0, 0))))) (RPo b N0 X (fun t τ' => PFn b N0 K t.1 τ' ∧ τ'.1 (fP b 3) = nI t.2.2.2.2.2.2.1 ∧ τ'.2.2.1 (pR16 b) 0 = nI t.2.2.1 ∧ τ'.1 (fP b 4) = nI t.1.2.2.2.2.1) σ0 a1 a2) := fun gg t0 => by
          cases y with
          | inl yf =>
            rw [pb_nn] at hG
            have ex := (Option.some.inj hG).symm
            rw [hX _ ex]
            exact rt_callD (z := Sum.inl _) dy (Nat.le_refl _) t0 (Or.inl ⟨_, rfl, rfl⟩)
          | inr t =>
            rw [pb_ss] at hG
            have pl := gCal_mo p1 p5 p2 p6 ⟨p3, p4⟩ hy
            refine rt_callD (z := Sum.inr t) (f := fun k r2 => f_X5_readProgram__P k 4 L r2.2.1) dy (Nat.le_refl _) t0 (Or.inr ⟨_, rfl, fun τ1 ret1 n1 n2 r1 dk1 dy1 => ?_⟩)
            refine Tm_suc (fun k => by rw [f_X5_readProgram__P]) ?_
            exact ih _ x hG hX hY hW pl.2 _ _ (lI L 2 (L.1 2 + 1)) τ1 r1.1 dy1 hL (l2' _ pl.1) r1.2
        by_cases k34 : tkK T n g.1 = 34
        · refine Tm_yes ((lx_k (kk := 34) h1 (by decide)).2 k34) ?_
          rw [decide_eq_false (by rw [k34]; decide)] at hy
          exact fin _ (dp_4 (c_function (L := lZ) h0 hy) (fun k r e _ h' eh => (k4_4 (k4_f_X5_function k 0 lZ τ (w := k4w τ) rfl r e)).trans (hp4.trans (congrArg nI (gCal_p (hy.trans (congrArg some eh))).symm))))
        · refine Tm_no (fun z => k34 ((lx_k (kk := 34) h1 (by decide)).1 z)) ?_
          refine Tm_suc (fun k => by rw [f_X5_readProgram__P]) ?_
          rw [decide_eq_true (k2.resolve_left k34)] at hy
          exact fin _ (dp_4 (c_procedure (L := lZ) h0 hy) (fun k r e e0 h' eh => (k4_procedure h1.2.2.2.2.1.1 k r e e0).trans (by rw [hp4, n_add1]; exact congrArg nI (gCal_p (hy.trans (congrArg some eh))).symm)))
end DYN
end JnS536
section JnS537
/-! The class: typed code that is moved down stays typed. -/
section DYO
variable {c c' c1 c2 : Ct} {O H : Nat → Prop} {u nu R' p p1 p2 d rk k w n m N N0 vg W F pc op : Nat} {r ms : List Nat} {num : Int32}
theorem u_addm (x y : Int32) : uN (x + y) = (uN x + uN y) % 4294967296 := by
  exact BitVec.toNat_add _ _
/-- c2 is c1 moved down by N0 -/
def ShR (N0 : Nat) (c1 c2 : Ct) : Prop := (∀ p x, tcD c1 p = some x → N0 ≤ p ∧ tcD c2 (p - N0) = some x) ∧ tcN c1 = tcN c2 + N0 ∧ (∀ v, v < 41 → tcE c1 v = tcE c2 v + N0 ∧ tcP c1 v = tcP c2 v) ∧ (∀ v, tcF c1 v = tcF c2 v) ∧ (∀ v, tcK c1 v ↔ tcK c2 v) ∧ ∀ i, tcC c1 (i + N0) = tcC c2 i
theorem mvd_D (R : ShR N0 c1 c2) {x : Nat × Nat × List Nat × Nat} (e : p1 = p2 + N0) (h : tcD c1 p1 = some x) : tcD c2 p2 = some x := by
  have z := (R.1 p1 x h).2
  rw [e, Nat.add_sub_cancel] at z
  exact z
theorem mvd_S (R : ShR N0 c1 c2) (h : tcS c1 u) : tcS c2 u := ⟨fun z => h.1 ((R.2.2.2.2.1 u).2 z), h.2⟩
theorem mvd_x (R : ShR N0 c1 c2) (e : p1 = p2 + N0) (h : Nx c1 p1 u d r k) : Nx c2 p2 u d r k := by
  obtain ⟨rk, ⟨d', r', a1, a2, a3⟩, a4, a5⟩ := h
  rw [R.2.2.2.1] at a3 a5
  exact ⟨rk, ⟨d', r', mvd_D R e a1, a2, a3⟩, a4, a5⟩
theorem mvd_xS (R : ShR N0 c1 c2) (e : p1 = p2 + N0) (h : NxS c1 p1 u d r) : NxS c2 p2 u d r := by
  obtain ⟨rk, ⟨d', r', a1, a2, a3⟩, a4, a5⟩ := h
  rw [R.2.2.2.1] at a3 a5
  exact ⟨rk, ⟨d', r', mvd_D R e a1, a2, a3⟩, a4, a5⟩
theorem mvd_xR (R : ShR N0 c1 c2) (e : p1 = p2 + N0) (h : NxR c1 p1 u d r) : NxR c2 p2 u d r := by
  obtain ⟨rk, a1, a4, a5⟩ := h
  rw [R.2.2.2.1] at a5
  exact ⟨rk, mvd_D R e a1, a4, a5⟩
theorem mvd_j {x : Int32} (hp : pc + N0 < 4294967296) (h : N0 ≤ uN (nI (pc + N0) + x)) : uN (nI (pc + N0) + x) = uN (nI pc + x) + N0 := by
  have l := u_lt x
  rw [u_addm, u_n hp] at h ⊢
  rw [u_addm, u_n (by omega)]
  omega
theorem mvd_y (R : ShR N0 c1 c2) {x : Int32} (hp : pc + N0 < 4294967296) (h : Nx c1 (uN (nI (pc + N0) + x)) u d r k) : Nx c2 (uN (nI pc + x)) u d r k := by
  have h0 := h
  obtain ⟨rk, ⟨d', r', a1, a2, a3⟩, a4, a5⟩ := h
  exact mvd_x R (mvd_j hp (R.1 _ _ a1).1) h0
theorem mvd_yS (R : ShR N0 c1 c2) {x : Int32} (hp : pc + N0 < 4294967296) (h : NxS c1 (uN (nI (pc + N0) + x)) u d r) : NxS c2 (uN (nI pc + x)) u d r := by
  have h0 := h
  obtain ⟨rk, ⟨d', r', a1, a2, a3⟩, a4, a5⟩ := h
  exact mvd_xS R (mvd_j hp (R.1 _ _ a1).1) h0
theorem mvd_c (R : ShR N0 c1 c2) (k : Nat) : tcC c1 (pc + N0 + k) = tcC c2 (pc + k) := by
  rw [show pc + N0 + k = pc + k + N0 by omega]
  exact R.2.2.2.2.2 _
theorem mvd_W (R : ShR N0 c1 c2) : ∀ k, Wd (tcC c1) (p + N0) k = Wd (tcC c2) p k
  | 0 => rfl
  | k + 1 => by
    show Wd (tcC c1) (p + N0) k + (if tcC c1 (p + N0 + k) = 97 then 2 else 1) = Wd (tcC c2) p k + (if tcC c2 (p + k) = 97 then 2 else 1)
    rw [mvd_W R k, mvd_c R]
theorem mvd_0 (R : ShR N0 c1 c2) (h : Ok0 c1 (pc + N0) u d r rk) : Ok0 c2 pc u d r rk := by
  obtain ⟨h1, w, ms, h2, h3, h4, h5, h6, h7, h8⟩ := h
  exact ⟨h1, w, ms, h2, h3, h4, h5, mvd_S R h6, h7, mvd_xS R (by omega) h8⟩
theorem mvd_1 (R : ShR N0 c1 c2) (hp : pc + N0 < 4294967296) (h : Ok1 c1 (pc + N0) u d r rk op num) : Ok1 c2 pc u d r rk op num := by
  obtain ⟨h1, h2, h3, h4, h5⟩ := h
  refine ⟨fun e => ⟨mvd_S R (h1 e).1, (h1 e).2⟩, fun e => mvd_y R hp (h2 e), fun e => ?_, fun e => ?_, fun e => ⟨(h5 e).1, mvd_xS R (by omega) (h5 e).2⟩⟩
  · obtain ⟨d', e1, e2, e3⟩ := h3 e
    exact ⟨d', e1, mvd_x R (by omega) e2, mvd_y R hp e3⟩
  · obtain ⟨d', e1, e2, e3⟩ := h4 e
    exact ⟨d', e1, mvd_x R (by omega) e2, mvd_yS R hp e3⟩
theorem mvd_2 (R : ShR N0 c1 c2) (h : Ok2 c1 (pc + N0) u d r rk op num) : Ok2 c2 pc u d r rk op num := by
  obtain ⟨h1, h2, h3, h4, h5, h6, h7, h8, h9, h10, h11⟩ := h
  have eN := R.2.1
  have c1' := mvd_c (pc := pc) R 1
  refine ⟨fun e => ?_, fun e => ?_, fun e => ?_, fun e => ⟨(h4 e).1, mvd_x R (by omega) (h4 e).2⟩, fun e => ⟨by rw [← R.2.2.2.1]; exact (h5 e).1, mvd_x R (by omega) (h5 e).2⟩, fun e => ?_, fun e => ⟨(h7 e).1, mvd_x R (by omega) (h7 e).2⟩, fun e => ⟨(h8 e).1, mvd_x R (by omega) (h8 e).2⟩, fun e => ⟨(h9 e).1, mvd_x R (by omega) (h9 e).2⟩, fun e => ⟨(h10 e).1, mvd_x R (by omega) (h10 e).2⟩, fun e => ⟨(h11 e).1, mvd_xS R (by omega) (h11 e).2⟩⟩
  · obtain ⟨e1, e2, e3⟩ := h1 e
    rw [c1'] at e2
    exact ⟨by omega, e2, mvd_x R (by omega) e3⟩
  · obtain ⟨e1, e2, e3⟩ := h2 e
    rw [c1'] at e2
    exact ⟨by omega, e2, mvd_xS R (by omega) e3⟩
  · obtain ⟨e1, e2, e3⟩ := h3 e
    unfold LitC at e2 ⊢
    rw [c1'] at e2
    exact ⟨by omega, e2, mvd_xS R (by omega) e3⟩
  · obtain ⟨d', r', e1, e2⟩ := h6 e
    exact ⟨d', r', e1, mvd_x R (by omega) e2⟩
theorem mvd_3 (R : ShR N0 c1 c2) (h : Ok3 c1 (pc + N0) u d r rk op num) : Ok3 c2 pc u d r rk op num := by
  obtain ⟨h1, h2, h3, h4, h5⟩ := h
  refine ⟨fun e => ?_, fun e => ?_, fun e => ?_, fun e => mvd_xS R (by omega) (h4 e), fun e => ⟨(h5 e).1, mvd_xS R (by omega) (h5 e).2⟩⟩
  · obtain ⟨d', e1, e2, e3⟩ := h1 e
    rw [R.2.2.2.1] at e2
    exact ⟨d', e1, e2, mvd_xS R (by omega) e3⟩
  · obtain ⟨d', e1, e3⟩ := h2 e
    exact ⟨d', e1, mvd_xS R (by omega) e3⟩
  · obtain ⟨d', e1, e3⟩ := h3 e
    exact ⟨d', e1, mvd_xS R (by omega) e3⟩
theorem mvd_4 (R : ShR N0 c1 c2) (hp : pc + N0 < 4294967296) (h : Ok4 c1 (pc + N0) u d r rk op n) : Ok4 c2 pc u d r rk op n := by
  obtain ⟨h64, h65, h66, h67, h68, h6s, h69, h70, h71, h72, h73⟩ := h
  have eN := R.2.1
  have k1 := mvd_c (pc := pc) R 1
  have k2 := mvd_c (pc := pc) R 2
  have eF := R.2.2.2.1 u
  rw [k1] at h65 h67 h68 h70 h72 h73
  rw [k2] at h73
  rw [eF] at h64 h66 h67 h69 h70 h71 h72 h73
  refine ⟨fun e => ?_, fun e => ?_, fun e => ?_, fun e => ?_, fun e => ?_, fun e => ⟨mvd_S R (h6s e).1, (h6s e).2⟩, fun e => ?_, fun e => ?_, fun e => ?_, fun e => ?_, fun e => ?_⟩
  · obtain ⟨d', r', e1, e2, e3, e4, e5, e6⟩ := h64 e
    exact ⟨d', r', e1, e2, e3, e4, e5, mvd_x R (by omega) e6⟩
  · obtain ⟨r', e1, e2, e3, e4, e5, e6, e7⟩ := h65 e
    exact ⟨r', e1, e2, e3, by omega, e5, mvd_y R hp e6, mvd_xS R (by omega) e7⟩
  · obtain ⟨d', r1, r', e1, e2, e3, e4, e5, e6, e7⟩ := h66 e
    exact ⟨d', r1, r', e1, e2, e3, e4, e5, e6, mvd_x R (by omega) e7⟩
  · obtain ⟨d', r1, r', e1, e2, e3, e4, e5, e6, e7, e8⟩ := h67 e
    exact ⟨d', r1, r', e1, e2, by omega, e4, e5, e6, e7, mvd_x R (by omega) e8⟩
  · obtain ⟨r', e1, e2, e3, e4, e5⟩ := h68 e
    exact ⟨r', by omega, e2, e3, e4, mvd_x R (by omega) e5⟩
  · obtain ⟨d', r', e1, e2, e3, e4, e5, e6, e7, e8⟩ := h69 e
    exact ⟨d', r', e1, e2, e3, e4, e5, e6, e7, mvd_x R (by omega) e8⟩
  · obtain ⟨r', e1, e2, e3, e4, e5, e6, e7, e8⟩ := h70 e
    exact ⟨r', e1, e2, e3, e4, by omega, e6, mvd_y R hp e7, mvd_xS R (by omega) e8⟩
  · obtain ⟨d', r', e1, e2, e3, e4, e5, e6⟩ := h71 e
    exact ⟨d', r', e1, e2, e3, e4, e5, mvd_x R (by omega) e6⟩
  · obtain ⟨d', r', e1, e2, e3, e4, e5, e6, e7⟩ := h72 e
    exact ⟨d', r', e1, e2, by omega, e4, e5, e6, mvd_x R (by omega) e7⟩
  · obtain ⟨r', e1, e2, e3, e4, e5, e6, e7, e8⟩ := h73 e
    exact ⟨r', by omega, e2, e3, e4, e5, e6, e7, mvd_x R (by omega) e8⟩
theorem mvd_5 (R : ShR N0 c1 c2) (h : Ok5 c1 (pc + N0) u d r rk op num) : Ok5 c2 pc u d r rk op num := by
  obtain ⟨h1, h2, h3, h4, h5, h6⟩ := h
  have eF := R.2.2.2.1 u
  rw [eF] at h5
  refine ⟨fun e => ?_, fun e => ?_, fun e => ?_, fun e => ?_, fun e => ?_, fun e => ?_⟩
  · obtain ⟨f, e1, e2, e3⟩ := h1 e
    exact ⟨f, e1, e2, mvd_x R (by omega) e3⟩
  · obtain ⟨a, s, e1, e2, e3, e4, e5⟩ := h2 e
    exact ⟨a, s, e1, e2, e3, e4, mvd_x R (by omega) e5⟩
  · obtain ⟨a, s, e1, e2, e3, e4, e5⟩ := h3 e
    exact ⟨a, s, e1, e2, e3, e4, mvd_x R (by omega) e5⟩
  · obtain ⟨a, s, e1, e2, e3, e4⟩ := h4 e
    exact ⟨a, s, e1, e2, e3, mvd_xS R (by omega) e4⟩
  · obtain ⟨d', m, f, e1, e2, e3, e4, e5, e6, e7⟩ := h5 e
    exact ⟨d', m, f, e1, e2, e3, e4, e5, e6, mvd_x R (by omega) e7⟩
  · obtain ⟨d', m, f, e1, e2, e3, e4, e5, e7⟩ := h6 e
    exact ⟨d', m, f, e1, e2, e3, e4, e5, mvd_x R (by omega) e7⟩
theorem mvd_6 (R : ShR N0 c1 c2) (hp : pc + N0 < 4294967296) (h : Ok6 c1 (pc + N0) u d r rk op num) : Ok6 c2 pc u d r rk op num := by
  obtain ⟨h1, h2, h3, h4, h5⟩ := h
  have eN := R.2.1
  have k1 := mvd_c (pc := pc) R 1
  have eF := R.2.2.2.1 u
  rw [eF] at h4
  rw [k1] at h5
  refine ⟨fun e => ?_, fun e => ?_, fun e => ?_, fun e => ?_, fun e => ?_⟩
  · obtain ⟨d', e1, e2⟩ := h1 e
    exact ⟨d', e1, mvd_xS R (by omega) e2⟩
  · obtain ⟨d', e1, e2⟩ := h2 e
    exact ⟨d', e1, mvd_xS R (by omega) e2⟩
  · obtain ⟨v, s, e1, e2, e3, e4⟩ := h3 e
    exact ⟨v, s, e1, e2, e3, mvd_x R (by omega) e4⟩
  · obtain ⟨d0, w, ms, e1, e2, e3, e4, e5⟩ := h4 e
    exact ⟨d0, w, ms, e1, e2, e3, e4, mvd_x R (by omega) e5⟩
  · obtain ⟨e1, e2, e3, e4⟩ := h5 e
    exact ⟨e1, by omega, mvd_y R hp e3, mvd_xS R (by omega) e4⟩
theorem mvd_7 (R : ShR N0 c1 c2) (hu : u < 42) (h : Ok7 c1 (pc + N0) u d r rk op num) : Ok7 c2 pc u d r rk op num := by
  obtain ⟨h16, h17, h18, h19, h20, h21, h22, h23, h24⟩ := h
  have k1 := mvd_c (pc := pc) R 1
  have eF := R.2.2.2.1
  refine ⟨fun e => ?_, fun e => ?_, fun e => ⟨(h18 e).1, (R.2.2.2.2.1 u).1 (h18 e).2⟩, fun e => ?_, fun e => ?_, fun e => ?_, fun e => ⟨mvd_S R (h22 e).1, (h22 e).2⟩, fun e => ⟨mvd_S R (h23 e).1, mvd_x R (by omega) (h23 e).2⟩, fun e => ?_⟩
  · obtain ⟨a, s, e1, e2, e3⟩ := h16 e
    exact ⟨a, s, e1, e2, mvd_x R (by omega) e3⟩
  · obtain ⟨v, d0, r1, ⟨a1, a2, a3⟩, ⟨b1, b2, b3⟩, b4, ⟨b5, b6⟩, b7, b8, b9, b10⟩ := h17 e
    obtain ⟨x1, x2⟩ := R.2.2.1 v a2
    rw [k1] at b7 b8
    rw [eF] at b4
    rw [x2, eF] at b5
    rw [x2] at b1
    rw [eF] at b6 b10
    exact ⟨v, d0, r1, ⟨a1, a2, (R.2.2.2.2.1 v).1 a3⟩, ⟨b1, b2, b3⟩, b4, ⟨b5, b6⟩, b7, b8, mvd_xR R (by omega) b9, mvd_xR R x1 b10⟩
  · obtain ⟨v, ws, ms, ⟨a1, ⟨a2, a3⟩, a4⟩, a5, ⟨b1, b2⟩, b3, b4, b5, ⟨b6, b7⟩, rb, b8, b9, rk', b10, b11⟩ := h19 e
    obtain ⟨x1, x2⟩ := R.2.2.1 v a3
    rw [x2] at b2 b6 b8
    rw [eF] at b5 b6 b7 b10
    exact ⟨v, ws, ms, ⟨a1, ⟨a2, a3⟩, mvd_S R a4⟩, a5, ⟨b1, b2⟩, mvd_S R b3, b4, b5, ⟨b6, b7⟩, rb, mvd_D R (by omega) b8, b9, rk', mvd_D R x1 b10, b11⟩
  · obtain ⟨a1, a2, a3, a4, a5⟩ := h20 e
    have u41 := a2.2
    rw [(R.2.2.1 u (by omega)).2] at a5
    exact ⟨a1, mvd_S R a2, a3, a4, a5⟩
  · obtain ⟨ws, ms, a1, a2, a3, a4, a5, a6, a7, a8⟩ := h21 e
    exact ⟨ws, ms, a1, a2, a3, mvd_S R a4, a5, a6, mvd_x R (by omega) a7, mvd_xR R (by omega) a8⟩
  · obtain ⟨d', e1, e2⟩ := h24 e
    exact ⟨d', e1, mvd_x R (by omega) e2⟩
theorem mvd_8 (R : ShR N0 c1 c2) (h : Ok8 c1 (pc + N0) u d r rk op num) : Ok8 c2 pc u d r rk op num := by
  obtain ⟨P, D, ⟨a1, a2, a3⟩, a4, a5, a6, a7, a8⟩ := h
  have eN := R.2.1
  rw [mvd_c (pc := pc) R 2] at a1
  rw [mvd_c (pc := pc) R 1] at a2
  rw [show pc + N0 + 3 = pc + 3 + N0 by omega, mvd_W R] at a4
  rw [R.2.2.2.1] at a7
  exact ⟨P, D, ⟨a1, a2, by omega⟩, a4, a5, a6, a7, mvd_x R (by omega) a8⟩
theorem mvd_9 (R : ShR N0 c1 c2) (h : Ok9 c1 (pc + N0) u d r rk op num) : Ok9 c2 pc u d r rk op num := by
  obtain ⟨P, D, ⟨a1, a2, a3⟩, a4, a5, ⟨a6, a6'⟩, a7, a8, a9⟩ := h
  have eN := R.2.1
  rw [mvd_c (pc := pc) R 2] at a1
  rw [mvd_c (pc := pc) R 1] at a2
  rw [show pc + N0 + 3 = pc + 3 + N0 by omega, mvd_W R] at a4
  rw [R.2.2.2.1] at a8
  exact ⟨P, D, ⟨a1, a2, by omega⟩, a4, a5, ⟨a6, mvd_S R a6'⟩, a7, a8, mvd_x R (by omega) a9⟩
theorem mvd_I (R : ShR N0 c1 c2) (hp : pc + N0 < 4294967296) (hu : u < 42) (h : OKI c1 (pc + N0) u d r rk op num) : OKI c2 pc u d r rk op num := by
  obtain ⟨h0, h1, h2, h3, h4, h5, h6, h7, h8, h9, h10, h11, h12, h13, h14⟩ := h
  have eN := R.2.1
  refine ⟨fun e => mvd_0 R (h0 e), fun e f => mvd_1 R hp (h1 e f), h2, fun e f => ⟨fun z => by have := (h3 e f).1 z; omega, mvd_7 R hu (h3 e f).2⟩, fun e f => mvd_2 R (h4 e f), fun e f => mvd_3 R (h5 e f), fun e f => ⟨(h6 e f).1, (h6 e f).2.1, mvd_4 R hp (h6 e f).2.2⟩, fun e f => mvd_5 R (h7 e f), fun e f => mvd_6 R hp (h8 e f), fun e f => ?_, fun e f => ?_, fun e => ?_, fun e f => ⟨(h12 e f).1, mvd_xS R (by omega) (h12 e f).2⟩, fun e f => mvd_8 R (h13 e f), fun e f => mvd_9 R (h14 e f)⟩
  · obtain ⟨a1, a2, e0, r1, rk', a3, a4, a5, a6, a7⟩ := h9 e f
    exact ⟨a1, a2, e0, r1, rk', a3, a4, mvd_D R (by omega) a5, a6, mvd_xS R (by omega) a7⟩
  · obtain ⟨d', a1, a2⟩ := h10 e f
    exact ⟨d', a1, mvd_xS R (by omega) a2⟩
  · obtain ⟨d', a1, a2, a3⟩ := h11 e
    exact ⟨d', a1, mvd_S R a2, mvd_x R (by omega) a3⟩
/-- a place that is good -/
theorem mvd_P (R : ShR N0 c1 c2) (hb : ∀ x, tcD c2 pc = some x → tcD c1 (pc + N0) = some x) (hp : pc + N0 < 4294967296) (h : CkP c1 (pc + N0)) : CkP c2 pc := by
  intro u d r rk e
  obtain ⟨a1, a2, op, a3, a4, a5, a6⟩ := h u d r rk (hb _ e)
  have eN := R.2.1
  rw [show tcC c1 (pc + N0) = tcC c2 pc from R.2.2.2.2.2 pc] at a4 a5
  refine ⟨by omega, a2, op, a3, a4, fun hu => mvd_I R hp hu (a5 hu), fun hu => ⟨(a6 hu).1, (a6 hu).2.1, fun d' r0 er => mvd_xS R (by omega) ((a6 hu).2.2 d' r0 er)⟩⟩
/-- code moved down -/
def dnC (c : Ct) (N0 : Nat) (E P F : Nat → Nat) : Ct := (fun i => tcC c (i + N0), tcN c - N0, E, P, F, tcK c, fun p => tcD c (p + N0))
/-- a code seen from N0 on -/
def upC (c c' : Ct) (N0 : Nat) : Ct := (fun i => tcC c' (i - N0), tcN c' + N0, fun v => if v = 41 then tcE c 41 else tcE c' v + N0, fun v => if v = 41 then tcP c 41 else tcP c' v, tcF c', tcK c', fun p => if p < N0 then none else tcD c' (p - N0))
theorem up_R (c c' : Ct) (N0 : Nat) : ShR N0 (upC c c' N0) c' := by
  refine ⟨fun p x e => ?_, rfl, fun v hv => ⟨?_, ?_⟩, fun _ => rfl, fun _ => Iff.rfl, fun i => ?_⟩
  · have e' : (if p < N0 then none else tcD c' (p - N0)) = some x := e
    by_cases z : p < N0
    · rw [if_pos z] at e'; cases e'
    · rw [if_neg z] at e'
      exact ⟨by omega, e'⟩
  · show (if v = 41 then tcE c 41 else tcE c' v + N0) = _
    rw [if_neg (by omega)]
  · show (if v = 41 then tcP c 41 else tcP c' v) = _
    rw [if_neg (by omega)]
  · show tcC c' (i + N0 - N0) = _
    rw [Nat.add_sub_cancel]
/-- typed code moved down is typed; entries and params of the told units as they were -/
theorem TI_dn {E P F : Nat → Nat} (t : TI noP noP nu RK c) (h0 : ∀ p x, tcD c p = some x → N0 ≤ p) (hN : N0 ≤ tcN c) (hE : ∀ v, 1 ≤ v → v ≤ nu → tcE c v = E v + N0 ∧ tcP c v = P v ∧ tcF c v = F v) (hF : tcF c 0 = F 0 ∧ tcF c 41 = F 41) (hn : nu < 41) : TI noP noP nu RK (dnC c N0 E P F) := by
  obtain ⟨t1, t2, th, t3, t4⟩ := t
  refine ⟨by show tcN c - N0 ≤ 36864; omega, fun p o => o.elim, fun h o => o.elim, fun p hp => t3 (p + N0) (by have : tcN c - N0 < p := hp; omega), fun pc x e hpc => ?_⟩
  have hpc' : pc < tcN c - N0 := hpc
  rcases t4 (pc + N0) x e (by omega) with z | ⟨ln, Rp, z1, z2, z3, z4, z5⟩
  · exact z.elim
  · refine Or.inr ⟨ln, Rp, z1, by show pc + ln ≤ tcN c - N0; omega, z3, fun h o => o.elim, fun c' a hc _ => ?_⟩
    have cg : CtG noP (x.1 % 100) nu c (upC c c' N0) := by
      obtain ⟨g1, g2, g3, ⟨g4, g5⟩, g6⟩ := a
      have g1' : tcN c - N0 ≤ tcN c' := g1
      refine ⟨by show tcN c ≤ tcN c' + N0; omega, fun v hv => ?_, fun v hv => g3 v hv, ⟨?_, fun e0 => ?_⟩, fun p y ey => ⟨fun _ => ?_, fun o => o.elim⟩⟩
      · obtain ⟨k1, k2, k3⟩ := g2 v hv
        rcases hv with hv | hv
        · obtain ⟨m1, m2, m3⟩ := hE v hv.1 hv.2
          refine ⟨?_, ?_, ?_⟩
          · show (if v = 41 then tcE c 41 else tcE c' v + N0) = _
            rw [if_neg (by omega), k1, m1]; rfl
          · show (if v = 41 then tcP c 41 else tcP c' v) = _
            rw [if_neg (by omega), k2, m2]; rfl
          · show tcF c' v = _
            rw [k3, m3]; rfl
        · refine ⟨?_, ?_, ?_⟩
          · show (if v = 41 then tcE c 41 else tcE c' v + N0) = _
            rw [if_pos hv, hv]
          · show (if v = 41 then tcP c 41 else tcP c' v) = _
            rw [if_pos hv, hv]
          · show tcF c' v = _
            rw [k3, hv, hF.2]; rfl
      · show tcF c 0 ≤ tcF c' 0
        rw [hF.1]; exact g4
      · show tcF c' 0 = tcF c 0
        rw [hF.1]; exact g5 e0
      · show (if p < N0 then none else tcD c' (p - N0)) = some y
        have l := h0 p y ey
        rw [if_neg (by omega)]
        refine (g6 (p - N0) y ?_).1 id
        show tcD c (p - N0 + N0) = some y
        rw [Nat.sub_add_cancel l]
        exact ey
    refine mvd_P (up_R c c' N0) (fun y ey => ?_) (by omega) (z5 _ cg (fun i i1 i2 => ?_) (fun p x o _ => o.elim))
    · show (if pc + N0 < N0 then none else tcD c' (pc + N0 - N0)) = some y
      rw [if_neg (by omega), Nat.add_sub_cancel]
      exact ey
    · show tcC c' (i - N0) = _
      rw [hc (i - N0) (by omega) (by omega)]
      show tcC c (i - N0 + N0) = _
      rw [Nat.sub_add_cancel (by omega)]
end DYO
end JnS537
section JnS538
/-! The class: reading begins; a program is read. -/
section DYP
variable {σ σ' σ0 σ1 σ2 τ τ' τ0 : CS} {ρ : MS} {L L2 : LV} {b pr : Bool} {T : Nat → Int32} {n q q' q0 q1 u al o v v0 v' mk mk' p sz sz0 nc a1 a2 m f w st r0 vg vg' N N0 N1 M j W np pc b0 K : Nat} {y qh : Int32} {c : Ct} {g : PRG} {X : Fl (PRG × ST)}
/-- what the begin of reading leaves: the tape's row may be another, its bytes the same -/
def BgF (n : Nat) (σ σ' : CS) : Prop := ((∀ j, ¬ (j = 3704 ∨ (4003 ≤ j ∧ j ≤ 4020)) → σ'.1 j = σ.1 j) ∧ σ'.2.1 = σ.2.1) ∧ ((∀ k, ¬ k = 38 → σ'.2.2.1 k = σ.2.2.1 k ∧ sN σ' k = sN σ k) ∧ σ'.2.2.2.1 = σ.2.2.2.1) ∧ ((sCur σ' = sCur σ ∧ sOt σ' = sOt σ ∧ sPr σ' = sPr σ ∧ sKd σ' = sKd σ) ∧ σ'.2.2.2.2.2.2 = σ.2.2.2.2.2.2) ∧ cN σ' n
def BgO (b : Bool) (n : Nat) (u al : Int32) (T : Nat → Int32) (σ : CS) (r : RS) : Prop := r.1 = (0, 0) ∧ CoP σ r ∧ BgF n σ r.2.1 ∧ sameT T (r.2.1.2.2.1 38) n ∧ r.2.1.1 3704 = nI 0 ∧ (sPp r.2.1 = some b ∧ r.2.1.1 4003 = u ∧ r.2.1.1 4004 = al) ∧ (r.2.1.1 4005 = 0 ∧ r.2.1.1 4008 = -1 ∧ r.2.1.1 4009 = 0 ∧ r.2.1.1 4011 = 0 ∧ r.2.1.1 4016 = -1 ∧ r.2.1.1 4006 = 0)
theorem Ph_38 (e : ∀ k, ¬ k = 38 → sN σ' k = sN σ k) : PhC σ' + tpC (sN σ 38) = PhC σ + tpC (sN σ' 38) ∧ PhS σ' + tpS (sN σ 38) = PhS σ + tpS (sN σ' 38) := by
  unfold PhC PhS cdC cdS pC pS
  rw [e 3 (by decide), e 1 (by decide), e 2 (by decide), e 20 (by decide), e 21 (by decide), e 22 (by decide), e 26 (by decide), e 41 (by decide), e 42 (by decide), e 66 (by decide), e 43 (by decide), e 51 (by decide)]
  generalize tpC (sN σ 38) = x1
  generalize tpC (sN σ' 38) = x2
  generalize tpS (sN σ 38) = x3
  generalize tpS (sN σ' 38) = x4
  constructor <;> omega
theorem c_begin5 (hok : tOK σ) (hl : σ.1 3701 = nI n) (hn : n ≤ 32768) (ht : tRel σ ρ) (hb : L.2.2.1 1 = b) : Tm (fun k => f_X5_begin__P k 0 L σ) (BgO b n (L.1 2) (L.1 3) (ρ.2.2 3) σ) := by
  refine Tm_suc (fun k => by rw [f_X5_begin__P]) ?_
  refine Tm_suc (fun k => by rw [f_X5_begin__P]) ?_
  refine Tm_suc (fun k => by rw [f_X5_begin__P]) ?_
  refine Tm_suc (fun k => by rw [f_X5_begin__P]) ?_
  rw [hb]
  generalize hs : uI (uI (uI (uI (uI (uI (uI (uI (uI (uI (uPp σ (some b)) 4003 (L.1 2)) 4004 (L.1 3)) 4005 0) 4006 0) 4007 0) 4008 (-1)) 4009 0) 4011 0) 4013 0) 4016 (-1) = s
  have e2 : s.2 = (uPp σ (some b)).2 := by rw [← hs]; rfl
  have ef : ∀ j, ¬ (4003 ≤ j ∧ j ≤ 4020) → s.1 j = σ.1 j := fun j hj => by
    rw [← hs, uI_o (by omega), uI_o (by omega), uI_o (by omega), uI_o (by omega), uI_o (by omega), uI_o (by omega), uI_o (by omega), uI_o (by omega), uI_o (by omega), uI_o (by omega)]
    rfl
  have e3 : s.1 4003 = L.1 2 := by
    rw [← hs, uI_o (by decide), uI_o (by decide), uI_o (by decide), uI_o (by decide), uI_o (by decide), uI_o (by decide), uI_o (by decide), uI_o (by decide), uI_o (by decide), uI_s]
  have e4 : s.1 4004 = L.1 3 := by
    rw [← hs, uI_o (by decide), uI_o (by decide), uI_o (by decide), uI_o (by decide), uI_o (by decide), uI_o (by decide), uI_o (by decide), uI_o (by decide), uI_s]
  have e5 : s.1 4005 = 0 := by
    rw [← hs, uI_o (by decide), uI_o (by decide), uI_o (by decide), uI_o (by decide), uI_o (by decide), uI_o (by decide), uI_o (by decide), uI_s]
  have e6 : s.1 4006 = 0 := by
    rw [← hs, uI_o (by decide), uI_o (by decide), uI_o (by decide), uI_o (by decide), uI_o (by decide), uI_o (by decide), uI_s]
  have e8 : s.1 4008 = -1 := by
    rw [← hs, uI_o (by decide), uI_o (by decide), uI_o (by decide), uI_o (by decide), uI_s]
  have e9 : s.1 4009 = 0 := by
    rw [← hs, uI_o (by decide), uI_o (by decide), uI_o (by decide), uI_s]
  have e11 : s.1 4011 = 0 := by
    rw [← hs, uI_o (by decide), uI_o (by decide), uI_s]
  have e16 : s.1 4016 = -1 := by
    rw [← hs, uI_s]
  have s38 : s.2.2.1 38 = σ.2.2.1 38 := by rw [e2]; rfl
  have n38 : sN s = sN σ := by show s.2.2.2.2.1 = _; rw [e2]; rfl
  have hl' : s.1 3701 = nI n := by rw [ef _ (by decide)]; exact hl
  have hok' : tOK s := by
    unfold tOK at hok ⊢
    rw [ef _ (by decide), n38, s38]
    exact hok
  have ht' : tRel s ρ := by
    unfold tRel at ht ⊢
    rw [ef _ (by decide), s38]
    exact ht
  refine Tm_oxc (s_rewind hok' hl' hn lZ) (fun r h => by rw [h.1]) (fun r h => Tm_some ?_)
  have cn := rew_cN hl' hn h
  have sm := rew_same hl' hn ht' h
  obtain ⟨h1, row, m, h2, h3, h4, h5, h6, h7, h8, h9, h10, h11⟩ := h
  have k2 : ∀ j, ¬ j = 3704 → r.2.1.1 j = s.1 j := fun j hj => by
    rw [h2, uI_o hj]
    show upd s.1 3701 (s.1 3701) j = s.1 j
    by_cases z : j = 3701
    · rw [z, upd_same]
    · exact upd_other z
  have kN : ∀ k, ¬ k = 38 → sN r.2.1 k = sN s k := fun k hk => by
    rw [h2]
    show updN (sN s) 38 m k = sN s k
    exact if_neg hk
  have kM : sN r.2.1 38 = m := by
    rw [h2]
    exact (tC_n : sN (tC s (s.1 3701) row m) 38 = m)
  have kR : ∀ k, ¬ k = 38 → r.2.1.2.2.1 k = s.2.2.1 k := fun k hk => by
    rw [h2]
    exact updG_other hk
  have ph := Ph_38 (σ := s) (σ' := r.2.1) kN
  have ph2 := Ph_s (σ := σ) (σ' := s) n38
  rw [kM] at ph
  refine ⟨rfl, ⟨?_, ?_⟩, ⟨⟨fun j hj => ?_, ?_⟩, ⟨fun k hk => ⟨?_, ?_⟩, ?_⟩, ⟨⟨?_, ?_, ?_, ?_⟩, ?_⟩, cn.1⟩, sm, cn.2, ⟨?_, ?_, ?_⟩, ⟨?_, ?_, ?_, ?_, ?_, ?_⟩⟩
  · show r.2.2.1 + 0 + PhC r.2.1 ≤ PhC σ
    omega
  · show r.2.2.2 + 0 + PhS r.2.1 ≤ PhS σ
    omega
  · exact (k2 j (by omega)).trans (ef j (by omega))
  · show r.2.1.2.1 = σ.2.1
    rw [h2]
    show s.2.1 = _
    rw [e2]; rfl
  · show r.2.1.2.2.1 k = _
    rw [kR k hk, e2]; rfl
  · show sN r.2.1 k = _
    rw [kN k hk, n38]
  · show r.2.1.2.2.2.1 = _
    rw [h2]
    show s.2.2.2.1 = _
    rw [e2]; rfl
  · show r.2.1.2.2.2.2.2.1.1 = _
    rw [h2]
    show s.2.2.2.2.2.1.1 = _
    rw [e2]; rfl
  · show r.2.1.2.2.2.2.2.1.2.1 = _
    rw [h2]
    show s.2.2.2.2.2.1.2.1 = _
    rw [e2]; rfl
  · show r.2.1.2.2.2.2.2.1.2.2.1 = _
    rw [h2]
    show s.2.2.2.2.2.1.2.2.1 = _
    rw [e2]; rfl
  · show r.2.1.2.2.2.2.2.1.2.2.2.2 = _
    rw [h2]
    show s.2.2.2.2.2.1.2.2.2.2 = _
    rw [e2]; rfl
  · show r.2.1.2.2.2.2.2.2 = _
    rw [h2]
    show s.2.2.2.2.2.2 = _
    rw [e2]; rfl
  · show r.2.1.2.2.2.2.2.1.2.2.2.1 = _
    rw [h2]
    show s.2.2.2.2.2.1.2.2.2.1 = _
    rw [e2]; rfl
  · exact (k2 _ (by decide)).trans e3
  · exact (k2 _ (by decide)).trans e4
  · exact (k2 _ (by decide)).trans e5
  · exact (k2 _ (by decide)).trans e8
  · exact (k2 _ (by decide)).trans e9
  · exact (k2 _ (by decide)).trans e11
  · exact (k2 _ (by decide)).trans e16
  · exact (k2 _ (by decide)).trans e6
/-- what reading leaves -/
def RdK (b : Bool) (sz : Nat) (σ σ' : CS) : Prop := ((∀ j, ¬ (j = 404 ∨ (3702 ≤ j ∧ j ≤ 3704) ∨ (4003 ≤ j ∧ j ≤ 4020) ∨ (fP b 1 ≤ j ∧ j ≤ fP b 19)) → σ'.1 j = σ.1 j) ∧ (∀ j, ¬ (j = 3705 ∨ j = 3706) → σ'.2.1 j = σ.2.1 j)) ∧ ((∀ k, ¬ ((5 ≤ k ∧ k ≤ 11) ∨ k = 38 ∨ (41 ≤ k ∧ k ≤ 43) ∨ k = 51 ∨ pRw b k) → σ'.2.2.1 k = σ.2.2.1 k) ∧ (∀ k, ¬ (k = 38 ∨ (41 ≤ k ∧ k ≤ 43) ∨ k = 51) → sN σ' k = sN σ k) ∧ (∀ k, ¬ (k = pR5 b ∨ k = pR6 b) → σ'.2.2.2.1 k = σ.2.2.2.1 k)) ∧ ((sCur σ' = sCur σ ∧ sOt σ' = sOt σ ∧ sPr σ' = sPr σ) ∧ (∀ c, ¬ c = b → sKd σ' c = sKd σ c) ∧ σ'.2.2.2.2.2.2 = σ.2.2.2.2.2.2) ∧ (∀ i, i < sz → cdr b σ' i = cdr b σ i ∧ cdr (!b) σ' i = cdr (!b) σ i) ∧ (sz ≤ cdn b σ' ∧ (cdn b σ' = 36864 ∨ (sN σ' 43 = 1024 ∧ sN σ' 51 = 1024))) ∧ (sN σ' 41 ≤ 21504 ∧ (sN σ' 42 = sN σ 42 ∨ sN σ' 42 = 16384)) ∧ (sN σ' 38 ≤ 32770 ∧ tFit (σ'.2.2.1 38) (sN σ' 38) ∧ (σ.1 3701).toInt ≤ sN σ' 38) ∧ (σ'.2.2.1 (pR18 b) 41 = σ.2.2.1 (pR18 b) 41 ∧ σ'.2.2.1 (pR14 b) 41 = σ.2.2.1 (pR14 b) 41)
/-- the token at the tape's begin is looked at -/
theorem RdK_of {kd st en : Int32} {hi lo : Int64} (hl : σ.1 3701 = nI n) (a : BgF n σ σ1) (e2 : σ2 = sA σ1 kd st en hi lo) (d : DK b sz σ2 σ') : RdK b sz σ σ' := by
  obtain ⟨⟨a1, a2⟩, ⟨a3, a4⟩, ⟨⟨a5, a6, a7, a8⟩, a9⟩, a10⟩ := a
  obtain ⟨⟨d1, d2⟩, ⟨d3, d4, d5⟩, ⟨⟨d6, d7, d8, d8'⟩, d9, d10⟩, d11, d12, d13, d14, d15, d16⟩ := d
  have sf : ∀ j, ¬ (3702 ≤ j ∧ j ≤ 3704) → σ2.1 j = σ1.1 j := fun j hj => by
    rw [e2]
    show upd (upd (upd σ1.1 3702 kd) 3703 st) 3704 en j = _
    rw [upd_other (by omega), upd_other (by omega), upd_other (by omega)]
  have sl : ∀ j, ¬ (j = 3705 ∨ j = 3706) → σ2.2.1 j = σ1.2.1 j := fun j hj => by
    rw [e2]
    show updW (updW σ1.2.1 3705 hi) 3706 lo j = _
    rw [updW_other (by omega), updW_other (by omega)]
  have s2 : σ2.2.2 = σ1.2.2 := by rw [e2]; rfl
  have sn : ∀ k, sN σ2 k = sN σ1 k := fun k => by show σ2.2.2.2.2.1 k = _; rw [s2]
  have kd' : sKd σ2 = sKd σ := by
    show σ2.2.2.2.2.2.1.2.2.2.2 = _
    rw [s2]
    exact a8
  have cd : ∀ c i, cdr c σ2 i = cdr c σ i := fun c i => by
    show σ2.2.2.1 (pR0 (sKd σ2 c)) i = σ.2.2.1 (pR0 (sKd σ c)) i
    rw [kd', s2]
    rcases pR0_c (sKd σ c) with z | z
    · rw [z, (a3 43 (by decide)).1]
    · rw [z, (a3 51 (by decide)).1]
  obtain ⟨c1, c2, c3, c4, c5, c6, c7⟩ := a10
  have e38 : sN σ' 38 = sN σ1 38 := (d4 38 (by decide)).trans (sn 38)
  have r38 : σ'.2.2.1 38 = σ1.2.2.1 38 := (d3 38 (by unfold pRw; have := pR_13 b; omega)).trans (by rw [s2])
  refine ⟨⟨fun j hj => ?_, fun j hj => ?_⟩, ⟨fun k hk => ?_, fun k hk => ?_, fun k hk => ?_⟩, ⟨⟨?_, ?_, ?_⟩, fun c hc => ?_, ?_⟩, fun i hi => ⟨(d11 i hi).1.trans (cd b i), (d11 i hi).2.trans (cd (!b) i)⟩, d12, ⟨d13, ?_⟩, ⟨?_, ?_, ?_⟩, ?_, ?_⟩
  · exact (d1 j (fun z => hj z)).trans ((sf j (by omega)).trans (a1 j (by omega)))
  · exact (d2 j hj).trans ((sl j hj).trans (by rw [a2]))
  · exact (d3 k (fun z => hk (z.elim Or.inl (fun z => Or.inr (Or.inr z))))).trans (by rw [s2]; exact (a3 k (fun z => hk (Or.inr (Or.inl z)))).1)
  · exact (d4 k (by omega)).trans ((sn k).trans (a3 k (by omega)).2)
  · exact (d5 k hk).trans (by rw [s2, a4])
  · exact d6.trans (by show σ2.2.2.2.2.2.1.1 = _; rw [s2]; exact a5)
  · exact d7.trans (by show σ2.2.2.2.2.2.1.2.1 = _; rw [s2]; exact a6)
  · exact d8.trans (by show σ2.2.2.2.2.2.1.2.2.1 = _; rw [s2]; exact a7)
  · rw [d9 c hc, kd']
  · exact d10.trans (by rw [s2]; exact a9)
  · rcases d14 with z | z
    · exact Or.inl (z.trans ((sn 42).trans (a3 42 (by decide)).2))
    · exact Or.inr z
  · rw [e38]; exact c4
  · rw [e38, r38]; exact c5
  · rw [e38, hl, n_int (by omega)]
    omega
  · rw [d15, s2, (a3 _ (by have := pR_13 b; omega)).1]
  · rw [d16, s2, (a3 _ (by have := pR_13 b; omega)).1]
/-- what a program is read on -/
def RdB (b : Bool) (n N0 : Nat) (σ : CS) : Prop := (tOK σ ∧ σ.1 3701 = nI n ∧ n ≤ 10240 ∧ σ.2.2.2.1 39 = lxW) ∧ CdL b N0 σ ∧ sN σ 41 ≤ 21504 ∧ (sN σ 42 = 64 ∨ sN σ 42 = 16384) ∧ σ.2.2.1 (pR18 b) 41 = 0
theorem c_readProgram {up pp : Nat → Int32} (h : RdB b n N0 σ) (ht : tRel σ ρ) (hL : L.2.2.1 1 = b) (h0 : (σ.1 (fP b 3) = 0 ∧ σ.1 (fP b 11) = 0 ∧ σ.1 (fP b 12) = 0 ∧ σ.1 (fP b 19) = 0) ∧ σ.2.2.1 (pR16 b) 0 = 0 ∧ σ.2.2.1 (pR18 b) 0 = 0) (h04 : σ.1 (fP b 4) = 0) (hK : 2 * N0 + 7 * n + 110 ≤ K) (hK2 : K ≤ 73728) (hG : gPrg (ρ.2.2 3) n (g0 (ρ.2.2 3) n up pp) = some X) : Tm (fun k => f_X5_readProgram__P k 0 L σ) (fun r => r.1.1 = 0 ∧ (∀ t, X = Sum.inr t → r.1.2 = 1 ∧ (PFn b N0 K t.1 r.2.1 ∧ r.2.1.1 (fP b 3) = nI t.2.2.2.2.2.2.1 ∧ r.2.1.2.2.1 (pR16 b) 0 = nI t.2.2.1 ∧ r.2.1.1 (fP b 4) = nI t.1.2.2.2.2.1) ∧ r.2.1.1 4006 = 0) ∧ (∀ y, X = Sum.inl y → r.1.2 = 0 ∧ r.2.1.1 4006 = nI y.1 ∧ r.2.1.1 4007 = nI y.2) ∧ (r.2.2.1 + PhC r.2.1 ≤ PhC σ + 1 ∧ r.2.2.2 + PhS r.2.1 ≤ PhS σ + 6) ∧ RdK b N0 σ r.2.1) := by
  obtain ⟨⟨b1, b2, b3, b4⟩, b5, b6, b7, b8⟩ := h
  obtain ⟨⟨z1, z2, z3, z4⟩, z5, z6⟩ := h0
  have f9 := fP_19 b
  have pr := pR_13 b
  have hsk : sk (ρ.2.2 3) n 0 ≤ n := skE_le (ρ.2.2 3) n (n + 1) 0 (Nat.zero_le _)
  have n36 : N0 ≤ 36864 := by omega
  refine Tm_suc (fun k => by rw [f_X5_readProgram__P]) ?_
  rw [hL]
  refine Tm_oxc (c_begin5 b1 b2 (by omega) ht (L := lI (lI (lB lZ 1 b) 2 0) 3 2) rfl) (fun r h => by rw [h.1]) (fun r h => ?_)
  obtain ⟨⟨q1, q2⟩, σ1, ⟨n1, n2⟩⟩ := r
  obtain ⟨-, co, bg, sm, e4, ⟨p1, p2, p3⟩, ⟨p4, p5, p6, p7, p8, p9⟩⟩ := h
  have bg0 := bg
  obtain ⟨⟨a1, a2⟩, ⟨a3, a4⟩, ⟨⟨a5, a6, a7, a8⟩, a9⟩, a10⟩ := bg
  have co1 : n1 + PhC σ1 ≤ PhC σ := co.1
  have co2 : n2 + PhS σ1 ≤ PhS σ := co.2
  have adv := c_advP (L := lZ) a10 sm (by rw [a4]; exact b4) e4 (Nat.zero_le n)
  show Tm (fun k => oh (f_X2_advance k 0 lZ σ1) (fun r2 => f_X5_readProgram__P k 1 (lI L 2 0) r2.2.1) (fun r2 => op (y_X5_noteFault k 0 lZ r2.2.1) (fun r3 => some ((0, 0), r3.2, (0, 0))))) _
  have hG' : (if tkK (ρ.2.2 3) n (sk (ρ.2.2 3) n 0) = 0 then some (Sum.inl (1, sk (ρ.2.2 3) n 0)) else pb (GDs (ρ.2.2 3) n (n + 1) (g0 (ρ.2.2 3) n up pp)) (fun g => gPe (ρ.2.2 3) n g)) = some X := hG
  refine Tm_oh (g := fun k r2 => op (y_X5_noteFault k 0 lZ r2.2.1) (fun r3 => some ((0, 0), r3.2, (0, 0)))) adv (fun r w nz => ?_) (fun r w e0 => ?_) (fun r w e1 => ?_)
  · by_cases k0 : tkK (ρ.2.2 3) n (sk (ρ.2.2 3) n 0) = 0
    · rw [(w.1 k0).1]
    · exact absurd (by rw [(w.2.1 k0).1]) nz
  · have k0 : ¬ tkK (ρ.2.2 3) n (sk (ρ.2.2 3) n 0) = 0 := fun k0 => by
      rw [(w.1 k0).1] at e0
      exact absurd e0 (by decide)
    rw [if_neg k0] at hG'
    obtain ⟨w1, w2, lx⟩ := w.2.1 k0
    obtain ⟨kd, st, en, hi, lo, es⟩ := w.2.2
    have gx : ∃ y, GDs (ρ.2.2 3) n (n + 1) (g0 (ρ.2.2 3) n up pp) = some y := by
      rcases pb_any hG' with ⟨yf, z, _⟩ | ⟨t, z, _⟩
      · exact ⟨_, z⟩
      · exact ⟨_, z⟩
    obtain ⟨y, hy⟩ := gx
    rw [hy] at hG'
    generalize hτ : r.2.1 = τ at *
    have sf : ∀ j, ¬ (3702 ≤ j ∧ j ≤ 3704) → τ.1 j = σ1.1 j := fun j hj => by
      rw [es]
      show upd (upd (upd σ1.1 3702 kd) 3703 st) 3704 en j = _
      rw [upd_other (by omega), upd_other (by omega), upd_other (by omega)]
    have s2 : τ.2.2 = σ1.2.2 := by rw [es]; rfl
    have sg : ∀ j, ¬ (j = 3704 ∨ (4003 ≤ j ∧ j ≤ 4020)) → ¬ (3702 ≤ j ∧ j ≤ 3704) → τ.1 j = σ.1 j := fun j h1 h2 => (sf j h2).trans (a1 j h1)
    have sr : ∀ k, ¬ k = 38 → τ.2.2.1 k = σ.2.2.1 k := fun k hk => by rw [s2]; exact (a3 k hk).1
    have sn : ∀ k, ¬ k = 38 → sN τ k = sN σ k := fun k hk => by show τ.2.2.2.2.1 k = _; rw [s2]; exact (a3 k hk).2
    have kd' : sKd τ = sKd σ := by
      show τ.2.2.2.2.2.1.2.2.2.2 = _
      rw [s2]
      exact a8
    have ph := Ph_s (σ := σ1) (σ' := τ) (by rw [s2])
    have qs : QS (ρ.2.2 3) n b 0 2 [] 0 (sk (ρ.2.2 3) n 0) 0 0 0 N0 τ := by
      refine ⟨lx, CdL_s b5 (sg _ (by omega) (by omega)) (by rw [kd']) ⟨sn _ (by decide), sn _ (by decide)⟩, ⟨by rw [sf _ (by decide)]; exact p7, Nat.zero_le _, by rw [sn _ (by decide)]; exact b6⟩, ⟨by rw [sg _ (by omega) (by omega)]; exact z2, by show 0 ≤ 256; omega, fun i hi => absurd hi (Nat.not_lt_zero _)⟩, ⟨by show τ.2.2.2.2.2.1.2.2.2.1 = _; rw [s2]; exact p1, by rw [sf _ (by decide)]; exact p2, by rw [sf _ (by decide)]; exact p3, by rw [sf _ (by decide)]; exact p9⟩, ⟨by rw [sf _ (by decide)]; exact p4, Nat.zero_le _⟩, ⟨by rw [sr _ (by omega)]; exact z5, Nat.zero_le _⟩, by rw [sg _ (by omega) (by omega)]; exact z4⟩
    have zf : ZF b 0 0 0 none 0 τ := ⟨by rw [sr _ (by omega)]; exact z6, ⟨by rw [sg _ (by omega) (by omega)]; exact z1, Nat.zero_le _⟩, by rw [sf _ (by decide)]; exact p5, by rw [sf _ (by decide)]; exact p6, by rw [sn _ (by decide)]; exact b7⟩
    obtain ⟨W, hW1, hW2⟩ : ∃ W : Nat, (∀ h, y = Sum.inr h → W = h.2.2.2.2.2.1) ∧ (∀ e, y = Sum.inl e → W = 60) := by
      cases y with
      | inl yf => exact ⟨60, fun h e => (by cases e), fun _ _ => rfl⟩
      | inr h => exact ⟨h.2.2.2.2.2.1, fun h' e => (by cases e; rfl), fun _ e => (by cases e)⟩
    have de0 : DE (([], [], [], 0, true, true, fun _ => 0) : En) 0 0 0 0 := ⟨⟨rfl, fun _ => ⟨rfl, rfl⟩, fun z => absurd rfl z⟩, ⟨rfl, by omega, by omega, by omega⟩, List.Pairwise.nil, fun x hx => absurd hx List.not_mem_nil, fun x hx => absurd hx List.not_mem_nil⟩
    have nn : ∀ x : Nat × Nat × List Nat × Nat, ¬ (none : Option (Nat × Nat × List Nat × Nat)) = some x := fun x e => by cases e
    have pg0 : PgT (([], [], [], 0, true, true, fun _ => 0) : En) 0 0 N0 W (fun _ => 0, N0, fun _ => 0, fun _ => 0, fun v => if v = 0 then W else 0, fun _ => False, fun _ => none) := by
      refine ⟨⟨n36, fun p o => o.elim, fun p o => o.elim, fun p _ => rfl, fun pc x e => absurd e (nn x)⟩, rfl, ?_⟩
      exact ⟨fun p x e => absurd e (nn x), ⟨⟨Nat.zero_le _, (show (if (0 : Nat) = 0 then W else 0) = W from if_pos rfl)⟩, id, id, (show (if (41 : Nat) = 0 then W else 0) = 0 from if_neg (by decide))⟩, fun i hi => absurd hi (Nat.not_lt_zero _), fun x hx => absurd hx List.not_mem_nil⟩
    have ds : DSt (ρ.2.2 3) n b N0 W K (g0 (ρ.2.2 3) n up pp) τ := by
      refine ⟨_, N0, 0, ⟨qs, zf, de0⟩, ⟨rfl, rfl, by rw [sg _ (by omega) (by omega)]; exact z3, by rw [sr _ (by omega)]; exact b8⟩, fun i hi => absurd hi (Nat.not_lt_zero _), pg0, ⟨rfl, Nat.le_refl _, fun i h1 h2 => by omega⟩, ⟨by show 2 * N0 + 7 * (n - sk (ρ.2.2 3) n 0) + 110 ≤ K; omega, Nat.le_refl _, by show 0 ≤ 400; omega, b3, hK2⟩⟩
    have t2 := rp_lp (b := b) (N0 := N0) (W := W) (K := K) (X := X) (σ0 := τ) (n + 1) (g0 (ρ.2.2 3) n up pp) y hy (fun _ e => by rw [e, pb_nn] at hG'; exact (Option.some.inj hG').symm) (fun h e => by rw [e, pb_ss] at hG'; exact hG') ⟨hW1, hW2⟩ (g0_PL _ n up pp) 0 0 (lI L 2 0) τ ds (Dy_0 qs) hL (Nat.zero_le _) (by rw [sg _ (by omega) (by omega)]; exact h04)
    refine Tm_mono t2 (fun s k => ?_)
    obtain ⟨k1, k2, k3, k4, k5⟩ := k
    rw [w2]
    refine ⟨k1, k2, k3, ?_, RdK_of b2 bg0 es k5⟩
    show n1 + (0 + s.2.2.1) + PhC s.2.1 ≤ PhC σ + 1 ∧ n2 + (0 + s.2.2.2) + PhS s.2.1 ≤ PhS σ + 6
    omega
  · have k0 : tkK (ρ.2.2 3) n (sk (ρ.2.2 3) n 0) = 0 := by
      by_cases k0 : tkK (ρ.2.2 3) n (sk (ρ.2.2 3) n 0) = 0
      · exact k0
      · rw [(w.2.1 k0).1] at e1
        exact absurd e1 (by decide)
    rw [if_pos k0] at hG'
    have ex := (Option.some.inj hG').symm
    obtain ⟨w1, w2, w3⟩ := w.1 k0
    obtain ⟨kd, st, en, hi, lo, es⟩ := w.2.2
    refine Tm_op c_note (fun r2 v2 => Tm_some ?_)
    have s2 : r.2.1.2.2 = σ1.2.2 := by rw [es]; rfl
    have ph := Ph_s (σ := σ1) (σ' := r2.2) (by rw [v2.2.1, s2])
    have kd' : sKd r.2.1 = sKd σ := by
      show r.2.1.2.2.2.2.2.1.2.2.2.2 = _
      rw [s2]
      exact a8
    have sn : ∀ k, ¬ k = 38 → sN r.2.1 k = sN σ k := fun k hk => by show r.2.1.2.2.2.2.1 k = _; rw [s2]; exact (a3 k hk).2
    have cn : cdn b r.2.1 = cdn b σ := by
      show sN r.2.1 (pR0 (sKd r.2.1 b)) = sN σ (pR0 (sKd σ b))
      rw [kd']
      exact sn _ (by rcases pR0_c (sKd σ b) with z | z <;> omega)
    have dk : DK b N0 r.2.1 r2.2 := DK_n (DK_r ⟨by rw [cn]; exact b5.2.1, by rw [cn, sn 43 (by decide), sn 51 (by decide)]; exact b5.2.2⟩ (by rw [sn 41 (by decide)]; exact b6)) (fun j hj => v2.1 j (by omega)) v2.2.1
    rw [w2]
    have f6 : r.2.1.1 4006 = 0 := by
      rw [es]
      show upd (upd (upd σ1.1 3702 kd) 3703 st) 3704 en 4006 = _
      rw [upd_other (by decide), upd_other (by decide), upd_other (by decide)]
      exact p9
    have fl := v2.2.2 (1, sk (ρ.2.2 3) n 0) (Or.inr ⟨rfl, f6, w3⟩)
    refine And.intro rfl (And.intro (fun t e => ?_) (And.intro (fun y e => by rw [ex] at e; cases e; exact ⟨rfl, fl⟩) (And.intro ?_ (RdK_of b2 bg0 es dk))))
    · rw [ex] at e
      cases e
    show n1 + (1 + 0) + PhC r2.2 ≤ PhC σ + 1 ∧ n2 + (6 + 0) + PhS r2.2 ≤ PhS σ + 6
    omega
end DYP
end JnS538
section JnS539
variable {yf : Nat × Nat}
/-! The reference: whether there is a run stays over step and back; what view and value take (made by jx.py). -/
theorem kq_good : ∀ (k b : Nat) (L : Nat → Int32) (σ : MS), Kq (x_good k b L σ) (kq σ) := by
  intro k
  induction k with
  | zero => intro b L σ; exact Kq_no _
  | succ k ih =>
    intro b L σ
    match b with
    | 0 =>
      refine Kq_eq (by rw [x_good]) ?_
      exact Kq_c rfl (ih _ _ _)
    | 1 =>
      refine Kq_eq (by rw [x_good]) ?_
      exact Kq_ite (Kq_c rfl (ih _ _ _)) (Kq_c rfl (ih _ _ _))
    | 2 =>
      refine Kq_eq (by rw [x_good]) ?_
      exact Kq_c rfl (ih _ _ _)
    | 3 =>
      refine Kq_eq (by rw [x_good]) ?_
      exact Kq_ite (Kq_so rfl) (Kq_no _)
    | b + 4 =>
      refine Kq_eq (by rw [x_good]) (Kq_no _)
theorem kq_reset : ∀ (k b : Nat) (L : Nat → Int32) (σ : MS), Kq (x_reset k b L σ) (kq σ) := by
  intro k
  induction k with
  | zero => intro b L σ; exact Kq_no _
  | succ k ih =>
    intro b L σ
    match b with
    | 0 =>
      refine Kq_eq (by rw [x_reset]) ?_
      exact Kq_c rfl (ih _ _ _)
    | 1 =>
      refine Kq_eq (by rw [x_reset]) ?_
      exact Kq_c rfl (ih _ _ _)
    | 2 =>
      refine Kq_eq (by rw [x_reset]) ?_
      exact Kq_c rfl (ih _ _ _)
    | 3 =>
      refine Kq_eq (by rw [x_reset]) ?_
      exact Kq_c rfl (ih _ _ _)
    | 4 =>
      refine Kq_eq (by rw [x_reset]) ?_
      exact Kq_c rfl (ih _ _ _)
    | 5 =>
      refine Kq_eq (by rw [x_reset]) ?_
      exact Kq_c rfl (ih _ _ _)
    | 6 =>
      refine Kq_eq (by rw [x_reset]) ?_
      exact Kq_c rfl (ih _ _ _)
    | 7 =>
      refine Kq_eq (by rw [x_reset]) ?_
      exact Kq_c rfl (ih _ _ _)
    | 8 =>
      refine Kq_eq (by rw [x_reset]) ?_
      exact Kq_c rfl (ih _ _ _)
    | 9 =>
      refine Kq_eq (by rw [x_reset]) ?_
      exact Kq_c rfl (ih _ _ _)
    | 10 =>
      refine Kq_eq (by rw [x_reset]) ?_
      exact Kq_c rfl (ih _ _ _)
    | 11 =>
      refine Kq_eq (by rw [x_reset]) ?_
      exact Kq_c rfl (ih _ _ _)
    | 12 =>
      refine Kq_eq (by rw [x_reset]) ?_
      exact Kq_ite (Kq_c rfl (ih _ _ _)) (Kq_no _)
    | 13 =>
      refine Kq_eq (by rw [x_reset]) ?_
      exact Kq_ite (Kq_c rfl (ih _ _ _)) (Kq_no _)
    | 14 =>
      refine Kq_eq (by rw [x_reset]) ?_
      exact Kq_ite (Kq_c rfl (ih _ _ _)) (Kq_no _)
    | 15 =>
      refine Kq_eq (by rw [x_reset]) ?_
      exact Kq_c rfl (ih _ _ _)
    | 16 =>
      refine Kq_eq (by rw [x_reset]) ?_
      exact Kq_ite (Kq_c rfl (ih _ _ _)) (Kq_ite (Kq_c rfl (ih _ _ _)) (Kq_no _))
    | 17 =>
      refine Kq_eq (by rw [x_reset]) ?_
      exact Kq_ite (Kq_ite (Kq_c rfl (ih _ _ _)) (Kq_ite (Kq_ite (Kq_c rfl (ih _ _ _)) (Kq_c rfl (ih _ _ _))) (Kq_no _))) (Kq_no _)
    | 18 =>
      refine Kq_eq (by rw [x_reset]) ?_
      exact Kq_c rfl (ih _ _ _)
    | 19 =>
      refine Kq_eq (by rw [x_reset]) ?_
      exact Kq_c rfl (ih _ _ _)
    | 20 =>
      refine Kq_eq (by rw [x_reset]) ?_
      exact Kq_c rfl (ih _ _ _)
    | 21 =>
      refine Kq_eq (by rw [x_reset]) ?_
      exact Kq_ob (Kq_c rfl (kq_enter _ _ _ _)) (fun _ h634 => Kq_so h634)
    | b + 22 =>
      refine Kq_eq (by rw [x_reset]) (Kq_no _)
theorem kq_step : ∀ (k b : Nat) (L : Nat → Int32) (σ : MS), Kq (x_step k b L σ) (kq σ) := by
  intro k
  induction k with
  | zero => intro b L σ; exact Kq_no _
  | succ k ih =>
    intro b L σ
    match b with
    | 0 =>
      refine Kq_eq (by rw [x_step]) ?_
      exact Kq_ite (Kq_c rfl (ih _ _ _)) (Kq_c rfl (ih _ _ _))
    | 1 =>
      refine Kq_eq (by rw [x_step]) ?_
      exact Kq_ite (Kq_c rfl (ih _ _ _)) (Kq_ite (Kq_c rfl (ih _ _ _)) (Kq_c rfl (ih _ _ _)))
    | 2 =>
      refine Kq_eq (by rw [x_step]) ?_
      exact Kq_c rfl (ih _ _ _)
    | 3 =>
      refine Kq_eq (by rw [x_step]) ?_
      exact Kq_c rfl (ih _ _ _)
    | 4 =>
      refine Kq_eq (by rw [x_step]) ?_
      exact Kq_ob (Kq_c rfl (kq_good _ _ _ _)) (fun _ h635 => Kq_ite (Kq_so h635) (Kq_c h635 (ih _ _ _)))
    | 5 =>
      refine Kq_eq (by rw [x_step]) ?_
      exact Kq_c rfl (ih _ _ _)
    | 6 =>
      refine Kq_eq (by rw [x_step]) ?_
      exact Kq_ite (Kq_c rfl (ih _ _ _)) (Kq_ite (Kq_ite (Kq_ob (Kq_c rfl (kq_begin _ _ _ _)) (fun _ h636 => Kq_c h636 (ih _ _ _))) (Kq_no _)) (Kq_c rfl (ih _ _ _)))
    | 7 =>
      refine Kq_eq (by rw [x_step]) ?_
      exact Kq_ite (Kq_c rfl (ih _ _ _)) (Kq_c rfl (ih _ _ _))
    | 8 =>
      refine Kq_eq (by rw [x_step]) ?_
      exact Kq_ite (Kq_c rfl (ih _ _ _)) (Kq_c rfl (ih _ _ _))
    | 9 =>
      refine Kq_eq (by rw [x_step]) ?_
      exact Kq_c rfl (ih _ _ _)
    | 10 =>
      refine Kq_eq (by rw [x_step]) ?_
      exact Kq_so rfl
    | b + 11 =>
      refine Kq_eq (by rw [x_step]) (Kq_no _)
theorem kq_back : ∀ (k b : Nat) (L : Nat → Int32) (σ : MS), Kq (x_back k b L σ) (kq σ) := by
  intro k
  induction k with
  | zero => intro b L σ; exact Kq_no _
  | succ k ih =>
    intro b L σ
    match b with
    | 0 =>
      refine Kq_eq (by rw [x_back]) ?_
      exact Kq_ite (Kq_c rfl (ih _ _ _)) (Kq_c rfl (ih _ _ _))
    | 1 =>
      refine Kq_eq (by rw [x_back]) ?_
      exact Kq_ite (Kq_c rfl (ih _ _ _)) (Kq_ite (Kq_c rfl (ih _ _ _)) (Kq_c rfl (ih _ _ _)))
    | 2 =>
      refine Kq_eq (by rw [x_back]) ?_
      exact Kq_c rfl (ih _ _ _)
    | 3 =>
      refine Kq_eq (by rw [x_back]) ?_
      exact Kq_c rfl (ih _ _ _)
    | 4 =>
      refine Kq_eq (by rw [x_back]) ?_
      exact Kq_ob (Kq_c rfl (kq_good _ _ _ _)) (fun _ h637 => Kq_ite (Kq_so h637) (Kq_c h637 (ih _ _ _)))
    | 5 =>
      refine Kq_eq (by rw [x_back]) ?_
      exact Kq_ob (Kq_c rfl (kq_reset _ _ _ _)) (fun _ h638 => Kq_c h638 (ih _ _ _))
    | 6 =>
      refine Kq_eq (by rw [x_back]) ?_
      exact Kq_ite (Kq_c rfl (ih _ _ _)) (Kq_ite (Kq_ob (Kq_c rfl (kq_begin _ _ _ _)) (fun _ h639 => Kq_c h639 (ih _ _ _))) (Kq_no _))
    | 7 =>
      refine Kq_eq (by rw [x_back]) ?_
      exact Kq_so rfl
    | b + 8 =>
      refine Kq_eq (by rw [x_back]) (Kq_no _)
section VWX
variable {T : Nat → Nat → Int32} {FN : Nat → Nat → Prop} {S : Nat → Nat → Nat → Nat → Prop} {gl : List Gn} {pr : Nat → Nat} {b : BT} {ns n f : Nat} {Tp : Nat → Int32} {σ σa ρ ω : MS} {C K : Nat → Int32} {e0 z0 x66 : Int32} {sd : Int64} {m : Nat}
theorem s_view2 (hR : RIc T FN C K e0 z0 x66 0 sd σ) (hb : 1 ≤ b.1 ∧ b.1 + 33735 ≤ 70000 ∧ b.2.1 + 32768 ≤ 70000) (hg : PG gl pr b σ) (hTp : TpO Tp n σ) (hv : VwO gl pr b σ) (h111 : ¬ σ.1 111 = 0) {L : Nat → Int32} : Tm (fun k => x_view k 0 L σ) (fun r => (r = (0, mSc σ 2 2) ∧ σ.1 73 = 8) ∨ (¬ σ.1 73 = 8 ∧ VwP gl pr b σ r.2 ∧ r.2.1 2 = 0 ∧ ∃ x, gX Tp n (30 * n + 21) (gl, [], [], 42, false, false, pr) b = some x ∧ ((∃ z, x = Sum.inl z ∧ r.2.1 73 = σ.1 73 ∧ r.1 = -1 - nI z.2 ∧ r.2.1 11 = nI z.1) ∨ (∃ z, x = Sum.inr z ∧ r.2.1 73 = σ.1 73 + 1 ∧ r.1 = σ.1 73 ∧ r.2.1 11 = 0)))) := by
  obtain ⟨⟨n1, n2⟩, tp3, tpb⟩ := hTp
  obtain ⟨V, v1, v2, v3⟩ := hv
  refine Tm_suc (fun k => by rw [x_view]) ?_
  refine Tm_ite (fun z => absurd z h111) (fun _ => ?_)
  refine Tm_suc (fun k => by rw [x_view]) ?_
  refine Tm_ite (fun z => ?_) (fun z => ?_)
  · refine Tm_suc (fun k => by rw [x_view]) ?_
    refine Tm_ob (s_good _ _) (fun r hr => ?_)
    rw [hr]
    refine Tm_ite (fun _ => ?_) (fun v => absurd rfl v)
    exact Tm_some (Or.inl ⟨rfl, z⟩)
  have nz := z
  have hV8 : V < 8 := by
    rw [v1] at z
    have : ¬ V = 8 := fun e => z (by rw [e]; rfl)
    omega
  refine Tm_suc (fun k => by rw [x_view]) ?_
  refine Tm_suc (fun k => by rw [x_view]) ?_
  refine Tm_ob (s_good _ _) (fun r hr => ?_)
  rw [hr]
  refine Tm_ite (fun z => absurd (show (1 : Int32) = 0 from z) (by decide)) (fun _ => ?_)
  show Tm (fun k => x_view k 4 (upd L 100 0) (mSc σ 2 0)) _
  refine Tm_suc (fun k => by rw [x_view]) ?_
  show Tm (fun k => x_view k 5 (upd (upd (upd L 100 0) 1 (σ.1 22)) 2 (σ.1 24)) (mSc (mSc σ 2 0) 11 0)) _
  refine Tm_suc (fun k => by rw [x_view]) ?_
  obtain ⟨x, hx⟩ := gX_tot (T := Tp) (n := n) (gl, [], [], 42, false, decide (0 = 1), pr) b hb.1
  have hgA : PG gl pr b (mSc (mSc σ 2 0) 11 0) := ⟨hg.1, PB_c (σ := σ) rfl rfl (fun _ _ => rfl) hg.2.1, hg.2.2.1, hg.2.2.2⟩
  have ha : ∀ j, ¬ (j = 2 ∨ j = 11) → (mSc (mSc σ 2 0) 11 0).1 j = σ.1 j := fun j hj => by
    show upd (upd σ.1 2 0) 11 0 j = _
    rw [upd_other (by omega), upd_other (by omega)]
  refine Tm_ob (Tm_kk (p_readExp (dr := 0) (σ := mSc (mSc σ 2 0) 11 0) hx ⟨n1, n2⟩ tp3 hgA (by omega) rfl (by omega) (by omega)) (fun k => kk_readExp (c := 0) k 0 _ _ (fun _ => rfl) (fun _ => rfl))) (fun r1 hr1 => ?_)
  obtain ⟨⟨fx, _, hx2⟩, hK⟩ := hr1
  show Tm (fun k => x_view k 6 (upd (upd (upd (upd L 100 0) 1 (σ.1 22)) 2 (σ.1 24)) 3 (σ.1 4)) (mSc r1.2 22 (σ.1 22))) _
  refine Tm_suc (fun k => by rw [x_view]) ?_
  show Tm (fun k => x_view k 7 (upd (upd (upd (upd L 100 0) 1 (σ.1 22)) 2 (σ.1 24)) 3 (σ.1 4)) (mSc (mSc r1.2 22 (σ.1 22)) 24 (σ.1 24))) _
  obtain ⟨τ, hτ⟩ : ∃ τ, τ = mSc (mSc r1.2 22 (σ.1 22)) 24 (σ.1 24) := ⟨_, rfl⟩
  rw [← hτ]
  have ts : ∀ j, ¬ (j = 22 ∨ j = 24) → τ.1 j = r1.2.1 j := fun j hj => by
    rw [hτ]
    show upd (upd r1.2.1 22 _) 24 _ j = _
    rw [upd_other (by omega), upd_other (by omega)]
  have t22 : τ.1 22 = σ.1 22 := by rw [hτ]; rfl
  have t24 : τ.1 24 = σ.1 24 := by rw [hτ]; rfl
  have tr : τ.2 = r1.2.2 := by rw [hτ]; rfl
  have rx : ∀ a, ¬ ((4 ≤ a ∧ a ≤ 9) ∨ a = 12 ∨ (20 ≤ a ∧ a ≤ 27)) → τ.2.2 a = σ.2.2 a := fun a h => by
    rw [tr]; exact fx.2.2.1 a h
  have t73 : τ.1 73 = nI V := (ts 73 (by omega)).trans ((fx.1 73 (by decide)).trans v1)
  have t2 : τ.1 2 = 0 := (ts 2 (by omega)).trans (fx.1 2 (by decide))
  refine Tm_suc (fun k => by rw [x_view]) ?_
  cases x with
  | inl yf =>
    refine Tm_ite (fun z => absurd ((ts 10 (by omega)).symm.trans z) hx2.1) (fun _ => ?_)
    refine Tm_suc (fun k => by rw [x_view]) ?_
    refine Tm_some (Or.inr ⟨nz, ?_, (show τ.1 2 = 0 from t2), _, hx, Or.inl ⟨_, rfl, t73.trans v1.symm, (show -1 - τ.1 12 = _ by rw [ts 12 (by omega), hx2.2.2]), (ts 11 (by omega)).trans hx2.2.1⟩⟩)
    show VwP gl pr b σ (mSc τ 4 0)
    exact vw_p (ρ := r1.2) hR hg (by omega) ha rfl fx (fun j hj => (show (mSc τ 4 0).1 j = τ.1 j from upd_other (by omega)).trans (ts j (by omega))) (fun a _ => by show τ.2.2 a = _; rw [tr]) (by show τ.2.1 = _; rw [tr]) t22 t24 (fun a i h1 h2 => Or.inl (by show τ.2.2 a i = _; rw [rx a (by omega)])) (VwO_c (σ := σ) (t73.trans v1.symm) (rx 54 (by decide)) (rx 55 (by decide)) ⟨V, v1, v2, v3⟩) rfl
  | inr t =>
    refine Tm_ite (fun _ => ?_) (fun z => absurd ((ts 10 (by omega)).trans hx2.1) z)
    refine Tm_suc (fun k => by rw [x_view]) ?_
    -- the end: the view is there
    have fin : ∀ (N : Nat → Int32) (υ : MS), N 3 = nI n → (∀ j, υ.1 j = τ.1 j) → υ.2.1 = τ.2.1 → (∀ a, a ≠ 54 → υ.2.2 a = τ.2.2 a) → (∀ k, k < n → υ.2.2 54 (32768 * V + k) = Tp k) → (∀ y, y < 32768 * V → υ.2.2 54 y = σ.2.2 54 y) → Tm (fun k => x_view k 12 N υ) (fun r => (r = (0, mSc σ 2 2) ∧ σ.1 73 = 8) ∨ (¬ σ.1 73 = 8 ∧ VwP gl pr b σ r.2 ∧ r.2.1 2 = 0 ∧ ∃ x, gX Tp n (30 * n + 21) (gl, [], [], 42, false, false, pr) b = some x ∧ ((∃ z, x = Sum.inl z ∧ r.2.1 73 = σ.1 73 ∧ r.1 = -1 - nI z.2 ∧ r.2.1 11 = nI z.1) ∨ (∃ z, x = Sum.inr z ∧ r.2.1 73 = σ.1 73 + 1 ∧ r.1 = σ.1 73 ∧ r.2.1 11 = 0)))) := fun N υ n3 us ul ur uc uo => by
      have u73 : υ.1 73 = nI V := (us 73).trans t73
      have ix : ¬ (nI V < 0 ∨ 8 ≤ (nI V).toNatClampNeg) := n_in (by omega) (by omega)
      refine Tm_suc (fun k => by rw [x_view]) ?_
      rw [u73, n3]
      refine Tm_chk ix ?_
      rw [n_cl (p := V) (by omega)]
      show Tm (fun k => x_view k 13 N (mAr υ 55 V (nI n))) _
      refine Tm_suc (fun k => by rw [x_view]) ?_
      rw [show (mAr υ 55 V (nI n)).1 73 = nI V from u73]
      refine Tm_chk ix ?_
      rw [n_cl (p := V) (by omega)]
      show Tm (fun k => x_view k 14 N (mAr (mAr υ 55 V (nI n)) 36 V 0)) _
      refine Tm_suc (fun k => by rw [x_view]) ?_
      rw [show (mAr (mAr υ 55 V (nI n)) 36 V 0).1 73 = nI V from u73]
      refine Tm_chk ix ?_
      rw [n_cl (p := V) (by omega)]
      show Tm (fun k => x_view k 15 N (mAr (mAr (mAr υ 55 V (nI n)) 36 V 0) 37 V 0)) _
      refine Tm_suc (fun k => by rw [x_view]) ?_
      rw [show (mAr (mAr (mAr υ 55 V (nI n)) 36 V 0) 37 V 0).1 73 = nI V from u73]
      refine Tm_chk ix ?_
      rw [n_cl (p := V) (by omega)]
      show Tm (fun k => x_view k 16 N (mAr (mAr (mAr (mAr υ 55 V (nI n)) 36 V 0) 37 V 0) 38 V 0)) _
      refine Tm_suc (fun k => by rw [x_view]) ?_
      rw [show (mAr (mAr (mAr (mAr υ 55 V (nI n)) 36 V 0) 37 V 0) 38 V 0).1 73 = nI V from u73]
      refine Tm_chk ix ?_
      rw [n_cl (p := V) (by omega)]
      show Tm (fun k => x_view k 17 N (mAr (mAr (mAr (mAr (mAr υ 55 V (nI n)) 36 V 0) 37 V 0) 38 V 0) 39 V (vp_nar .boolean 0))) _
      obtain ⟨χ, hχ⟩ : ∃ χ, χ = mAr (mAr (mAr (mAr (mAr υ 55 V (nI n)) 36 V 0) 37 V 0) 38 V 0) 39 V (vp_nar .boolean 0) := ⟨_, rfl⟩
      rw [← hχ]
      have cs : ∀ j, χ.1 j = τ.1 j := fun j => by rw [hχ]; exact us j
      have cl : χ.2.1 = τ.2.1 := by rw [hχ]; exact ul
      have cr : ∀ a, ¬ ((36 ≤ a ∧ a ≤ 39) ∨ a = 55) → χ.2.2 a = υ.2.2 a := fun a h => by
        rw [hχ, mAr_o (by omega), mAr_o (by omega), mAr_o (by omega), mAr_o (by omega), mAr_o (by omega)]
      have c55 : χ.2.2 55 = upd (υ.2.2 55) V (nI n) := by
        rw [hχ, mAr_o (by decide), mAr_o (by decide), mAr_o (by decide), mAr_o (by decide), mAr_s]
      have cv : ∀ a i, 36 ≤ a → a ≤ 38 → χ.2.2 a i = σ.2.2 a i ∨ χ.2.2 a i = 0 := fun a i h1 h2 => by
        have e0 : υ.2.2 a i = σ.2.2 a i := by rw [ur a (by omega), rx a (by omega)]
        have : a = 36 ∨ a = 37 ∨ a = 38 := by omega
        by_cases ei : i = V
        · refine Or.inr ?_
          rw [hχ, ei]
          rcases this with rfl | rfl | rfl
          · rw [mAr_o (by decide), mAr_o (by decide), mAr_o (by decide), mAr_s, upd_same]
          · rw [mAr_o (by decide), mAr_o (by decide), mAr_s, upd_same]
          · rw [mAr_o (by decide), mAr_s, upd_same]
        · refine Or.inl ?_
          rw [hχ]
          rcases this with rfl | rfl | rfl
          · rw [mAr_o (by decide), mAr_o (by decide), mAr_o (by decide), mAr_s, upd_other ei, mAr_o (by decide)]; exact e0
          · rw [mAr_o (by decide), mAr_o (by decide), mAr_s, upd_other ei, mAr_o (by decide), mAr_o (by decide)]; exact e0
          · rw [mAr_o (by decide), mAr_s, upd_other ei, mAr_o (by decide), mAr_o (by decide), mAr_o (by decide)]; exact e0
      refine Tm_suc (fun k => by rw [x_view]) ?_
      show Tm (fun k => x_view k 18 N (mSc χ 4 0)) _
      refine Tm_suc (fun k => by rw [x_view]) ?_
      rw [show (mSc χ 4 0).1 73 = nI V from (cs 73).trans t73, n_add1]
      show Tm (fun k => x_view k 19 N (mSc (mSc χ 4 0) 73 (nI (V + 1)))) _
      refine Tm_suc (fun k => by rw [x_view]) ?_
      refine Tm_some (Or.inr ⟨nz, ?_, (show χ.1 2 = 0 from (cs 2).trans t2), _, hx, Or.inr ⟨_, rfl, (show nI (V + 1) = σ.1 73 + 1 by rw [v1, n_add1]), (show nI (V + 1) - 1 = σ.1 73 by rw [v1]; exact u_eq.2 (by rw [u_sub (by rw [u_n (by omega)]; show 1 ≤ V + 1; omega), u_n (by omega), u_n (by omega)]; show V + 1 - 1 = V; omega)), (show χ.1 11 = 0 from (cs 11).trans ((ts 11 (by omega)).trans (hK hx2.1)))⟩⟩)
      show VwP gl pr b σ (mSc (mSc χ 4 0) 73 (nI (V + 1)))
      refine vw_p (ρ := r1.2) hR hg (by omega) ha rfl fx (fun j hj => ?_) (fun a h => ?_) ?_ ((cs 22).trans t22) ((cs 24).trans t24) cv ⟨V + 1, rfl, by omega, fun v hv => ?_⟩ rfl
      · show upd (upd χ.1 4 0) 73 _ j = _
        rw [upd_other (by omega), upd_other (by omega), cs j, ts j (by omega)]
      · show χ.2.2 a = _
        rw [cr a (by omega), ur a (by omega), tr]
      · show χ.2.1 = _
        rw [cl, tr]
      · have e54 : ∀ y, χ.2.2 54 y = υ.2.2 54 y := fun y => by rw [cr 54 (by omega)]
        by_cases ev : v = V
        · subst ev
          refine ⟨n, ?_, n2, fun i hi => ?_, ?_⟩
          · show χ.2.2 55 v = _
            rw [c55, upd_same]
          · show ∃ d, d ≤ 300 ∧ χ.2.2 54 (32768 * v + i) = nI d
            rw [e54, uc i hi]; exact tpb i hi
          · refine ⟨30 * n + 21, t, ?_⟩
            show gX (fun i => χ.2.2 54 (32768 * v + i)) n _ _ b = _
            rw [gX_c (T' := Tp) (fun i hi => by rw [e54, uc i hi])]
            exact hx
        · obtain ⟨nv, a1, a2, a3, f', t', a4⟩ := v3 v (by omega)
          have old : ∀ i, i < nv → χ.2.2 54 (32768 * v + i) = σ.2.2 54 (32768 * v + i) := fun i hi => by
            have : 32768 * v + 32768 ≤ 32768 * V := by
              have : v + 1 ≤ V := by omega
              calc 32768 * v + 32768 = 32768 * (v + 1) := by omega
                _ ≤ 32768 * V := Nat.mul_le_mul_left _ this
            rw [e54, uo _ (by omega)]
          refine ⟨nv, ?_, a2, fun i hi => ?_, f', t', ?_⟩
          · show χ.2.2 55 v = _
            rw [c55, upd_other ev, ur 55 (by decide), rx 55 (by decide)]; exact a1
          · show ∃ d, d ≤ 300 ∧ χ.2.2 54 (32768 * v + i) = nI d
            rw [old i hi]; exact a3 i hi
          · show gX (fun i => χ.2.2 54 (32768 * v + i)) nv _ _ b = _
            rw [gX_c (T' := fun i => σ.2.2 54 (32768 * v + i)) (fun i hi => old i hi)]
            exact a4
    -- the text is copied
    have lp : ∀ (d i : Nat) (N : Nat → Int32) (υ : MS), d + i = n → N 3 = nI n → N 4 = nI i → (∀ j, υ.1 j = τ.1 j) → υ.2.1 = τ.2.1 → (∀ a, a ≠ 54 → υ.2.2 a = τ.2.2 a) → (∀ k, k < i → υ.2.2 54 (32768 * V + k) = Tp k) → (∀ y, y < 32768 * V → υ.2.2 54 y = σ.2.2 54 y) → Tm (fun k => x_view k 10 N υ) (fun r => (r = (0, mSc σ 2 2) ∧ σ.1 73 = 8) ∨ (¬ σ.1 73 = 8 ∧ VwP gl pr b σ r.2 ∧ r.2.1 2 = 0 ∧ ∃ x, gX Tp n (30 * n + 21) (gl, [], [], 42, false, false, pr) b = some x ∧ ((∃ z, x = Sum.inl z ∧ r.2.1 73 = σ.1 73 ∧ r.1 = -1 - nI z.2 ∧ r.2.1 11 = nI z.1) ∨ (∃ z, x = Sum.inr z ∧ r.2.1 73 = σ.1 73 + 1 ∧ r.1 = σ.1 73 ∧ r.2.1 11 = 0)))) := by
      intro d
      induction d with
      | zero =>
        intro i N υ hi n3 n4 us ul ur uc uo
        refine Tm_suc (fun k => by rw [x_view]) ?_
        rw [n3, n4]
        refine Tm_ite (fun _ => ?_) (fun z => absurd ((n_le (by omega) (by omega)).mpr (by omega)) z)
        exact fin N υ n3 us ul ur (fun k hk => uc k (by omega)) uo
      | succ d ih =>
        intro i N υ hi n3 n4 us ul ur uc uo
        have u73 : υ.1 73 = nI V := (us 73).trans t73
        refine Tm_suc (fun k => by rw [x_view]) ?_
        rw [n3, n4, u73, show (32768 : Int32) * nI V = nI (32768 * V) from n_mulN 32768 V, n_add (p := 32768 * V) (by omega)]
        refine Tm_ite (fun z => absurd ((n_le (by omega) (by omega)).mp z) (by omega)) (fun _ => ?_)
        refine Tm_chk (n_in (by omega) (by omega)) ?_
        refine Tm_chk (n_in (by omega) (by omega)) ?_
        rw [n_cl (p := i) (by omega), n_cl (p := 32768 * V + i) (by omega)]
        show Tm (fun k => x_view k 11 N (mAr υ 54 (32768 * V + i) (υ.2.2 3 i))) _
        refine Tm_suc (fun k => by rw [x_view]) ?_
        rw [n4, n_add1]
        have u3 : υ.2.2 3 i = Tp i := by rw [ur 3 (by decide), rx 3 (by decide), tp3]
        refine ih (i + 1) _ _ (by omega) n3 rfl us ul (fun a h => (mAr_o h).trans (ur a h)) (fun k hk => ?_) (fun y hy => ?_)
        · rw [mAr_s]
          by_cases e : k = i
          · rw [e, upd_same]; exact u3
          · rw [upd_other (by omega)]; exact uc k (by omega)
        · rw [mAr_s, upd_other (by omega)]; exact uo y hy
    exact lp n 0 _ τ (by omega) n1 rfl (fun _ => rfl) rfl (fun _ _ => rfl) (fun k hk => absurd hk (Nat.not_lt_zero k)) (fun y _ => by rw [rx 54 (by decide)])
end VWX
section VSX
variable {T : Nat → Nat → Int32} {FN : Nat → Nat → Prop} {S : Nat → Nat → Nat → Nat → Prop} {gl : List Gn} {pr : Nat → Nat} {b : BT} {ns n : Nat} {Tp : Nat → Int32} {σ τ ω : MS} {C K : Nat → Int32} {e0 z0 x66 : Int32} {sd : Int64} {m : Nat} {L : Nat → Int32} {X B h : Nat} {g : Nat → Prop} {l : List Nat}
theorem s_value2 (hM : MI 0 X g l B h σ) (hg : PG gl pr b σ) (hb : b.2.1 ≤ 70000) (hn : mN σ n) (h112 : ¬ σ.1 112 = 0) : Tm (fun k => x_value k 0 L σ) (fun r => (r.2 = mSc (mVl σ) 2 2 ∧ ¬ (∃ x, x ∈ gl ∧ x.2.2.1 = 1 ∧ mNm (mVl σ) 0 n x.2.1 x.1.length)) ∨ ((∃ v, Vd g v ∧ ShF (mSc (mVl σ) 4 0) v r.2) ∧ ∃ x, x ∈ gl ∧ x.2.2.1 = 1 ∧ mNm (mVl σ) 0 n x.2.1 x.1.length)) := by
  obtain ⟨_, _, ⟨g1, g2, g3⟩, _⟩ := hg
  refine Tm_suc (fun k => by rw [x_value]) ?_
  refine Tm_ite (fun z => absurd z h112) (fun _ => ?_)
  refine Tm_suc (fun k => by rw [x_value]) ?_
  refine Tm_ob (s_good _ _) (fun r hr => ?_)
  rw [hr]
  refine Tm_ite (fun z => absurd (show (1 : Int32) = 0 from z) (by decide)) (fun _ => ?_)
  refine Tm_suc (fun k => by rw [x_value]) ?_
  refine Tm_suc (fun k => by rw [x_value]) ?_
  show Tm (fun k => x_value k 5 (upd L 100 0) (mVl σ)) _
  refine Tm_suc (fun k => by rw [x_value]) ?_
  have s25 : (mVl σ).1 25 = nI gl.length := g1
  have s8 : (mVl σ).1 8 = nI 0 := rfl
  have s9 : (mVl σ).1 9 = nI n := hn.1
  have lp : ∀ (d i : Nat) (N : Nat → Int32), d + i = gl.length → N 1 = nI i → (∀ (k : Nat) (x : Gn), k < i → gl[k]? = some x → x.2.2.1 = 1 → ¬ mNm (mVl σ) 0 n x.2.1 x.1.length) → Tm (fun k => x_value k 6 N (mVl σ)) (fun r => (r.2 = mSc (mVl σ) 2 2 ∧ ¬ (∃ x, x ∈ gl ∧ x.2.2.1 = 1 ∧ mNm (mVl σ) 0 n x.2.1 x.1.length)) ∨ ((∃ v, Vd g v ∧ ShF (mSc (mVl σ) 4 0) v r.2) ∧ ∃ x, x ∈ gl ∧ x.2.2.1 = 1 ∧ mNm (mVl σ) 0 n x.2.1 x.1.length)) := by
    intro d
    induction d with
    | zero =>
      intro i N hd n1 no
      refine Tm_suc (fun k => by rw [x_value]) ?_
      rw [s25, n1]
      refine Tm_ite (fun _ => ?_) (fun z => absurd ((n_le (by omega) (by omega)).mpr (by omega)) z)
      refine Tm_suc (fun k => by rw [x_value]) ?_
      refine Tm_suc (fun k => by rw [x_value]) (Tm_some (Or.inl ⟨rfl, fun ⟨x, x1, x2, x3⟩ => ?_⟩))
      obtain ⟨k, hk, ek⟩ := List.mem_iff_getElem.1 x1
      exact no k x (by omega) (by rw [List.getElem?_eq_getElem hk, ek]) x2 x3
    | succ d ih =>
      intro i N hd n1 no
      have ix : ¬ (nI i < 0 ∨ 200 ≤ (nI i).toNatClampNeg) := n_in (by omega) (by omega)
      obtain ⟨x, hx⟩ : ∃ x, gl[i]? = some x := ⟨gl[i]'(by omega), List.getElem?_eq_getElem (by omega)⟩
      have nx : (x.2.2.1 = 1 → ¬ mNm (mVl σ) 0 n x.2.1 x.1.length) → Tm (fun k => x_value k 8 N (mVl σ)) (fun r => (r.2 = mSc (mVl σ) 2 2 ∧ ¬ (∃ x, x ∈ gl ∧ x.2.2.1 = 1 ∧ mNm (mVl σ) 0 n x.2.1 x.1.length)) ∨ ((∃ v, Vd g v ∧ ShF (mSc (mVl σ) 4 0) v r.2) ∧ ∃ x, x ∈ gl ∧ x.2.2.1 = 1 ∧ mNm (mVl σ) 0 n x.2.1 x.1.length)) := fun nn => by
        refine Tm_suc (fun k => by rw [x_value]) ?_
        rw [n1, n_add1]
        refine ih (i + 1) _ (by omega) rfl (fun k y hk ey => ?_)
        by_cases e : k = i
        · rw [e, hx] at ey
          cases ey
          exact nn
        · exact no k y (by omega) ey
      obtain ⟨q1, q2, q3, q4, q5, q6, q7, q8, _⟩ := g3 i x hx
      refine Tm_suc (fun k => by rw [x_value]) ?_
      rw [s25, n1]
      refine Tm_ite (fun z => absurd ((n_le (by omega) (by omega)).mp z) (by omega)) (fun _ => ?_)
      refine Tm_chk ix ?_
      refine Tm_ite (fun e1 => ?_) (fun e1 => nx (fun z => absurd (show (mVl σ).2.2 13 (nI i).toNatClampNeg = 1 by rw [n_cl (p := i) (by omega), show (mVl σ).2.2 13 i = nI x.2.2.1 from q1, z]; rfl) e1))
      have k1 : x.2.2.1 = 1 := by
        have e2 : (mVl σ).2.2 13 (nI i).toNatClampNeg = 1 := e1
        rw [n_cl (p := i) (by omega), show (mVl σ).2.2 13 i = nI x.2.2.1 from q1] at e2
        exact (n_eq (p := x.2.2.1) (q := 1) (by omega) (by decide)).mp e2
      refine Tm_chk ix ?_
      refine Tm_chk ix ?_
      rw [n_cl (p := i) (by omega), show (mVl σ).2.2 14 i = nI x.2.1 from q2, show (mVl σ).2.2 15 i = nI x.1.length from q3]
      refine Tm_ob (s_isNamed (σ := mVl σ) (f := 0) (e := n) s8 s9 (by omega) hn.2 (p := x.2.1) (l := x.1.length) (by omega) _ rfl rfl) (fun r6 hr6 => ?_)
      rw [hr6.1]
      refine Tm_ite (fun z => nx (fun _ y => absurd z (hr6.2.2 y))) (fun z => ?_)
      have nmx := hr6.2.1 z
      show Tm (fun k => x_value k 7 N (mSc (mVl σ) 4 0)) _
      refine Tm_suc (fun k => by rw [x_value]) ?_
      rw [n1]
      refine Tm_chk ix ?_
      rw [n_cl (p := i) (by omega), show (mSc (mVl σ) 4 0).2.2 16 i = nI x.2.2.2 from q4, show (4 : Int32) + nI x.2.2.2 = nI (4 + x.2.2.2) from n_add (p := 4) (by omega)]
      refine Tm_chk (n_in (by omega) (by omega)) ?_
      rw [n_cl (p := 4 + x.2.2.2) (by omega)]
      obtain ⟨a, a1, a2⟩ := hM.2.2.1 30 (4 + x.2.2.2) (Or.inr (Or.inl ⟨rfl, Or.inl ⟨by omega, by omega⟩⟩))
      have hS : HS g l B h (mSc (mVl σ) 4 0) := HS_c hM.1 rfl rfl rfl
      refine Tm_ob (s_show hS a2 (show (upd (fun _ => 0) 1 ((mSc (mVl σ) 4 0).2.2 30 (4 + x.2.2.2)) : Nat → Int32) 1 = nI a from a1)) (fun r hr => ?_)
      exact Tm_some (Or.inr ⟨⟨nI a, ⟨a, rfl, a2⟩, hr⟩, x, List.mem_of_getElem? hx, k1, nmx⟩)
  exact lp gl.length 0 _ (by omega) rfl (fun k x hk => absurd hk (Nat.not_lt_zero _))
end VSX
end JnS539
