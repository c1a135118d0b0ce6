/-! The class: programs are read: calls whose throws are caught; the statements of the program. -/
section DYM
variable {σ σ' σ0 σ2 τ τ' τ0 : CS} {L L2 : LV} {b pr : Bool} {T : Nat → Int32} {n q q' q0 q1 u al o v v0 v' mk mk' p sz sz0 nc a1 a2 m f w st r0 vg vg' N N0 N1 M j W np pc b0 K : Nat} {y qh : Int32} {l l' cs cs' : List Int32} {tb tb' A B : List Ent} {E E' E0 E1 Ep : En} {bt bt0 : BT} {lo : Option Nat} {md : Nat → Nat} {MD MD' : Nat → Nat → Nat} {c : Ct} {g : PRG} {s : SB} {F : Nat → Int32} {α β : Type} {x : Option α} {S : α → CS → Prop}
theorem Tm_oh {gg : Nat → Option RS} {f g : Nat → RS → Option RS} {P Q : RS → Prop} (t : Tm gg P) (h1 : ∀ r, P r → ¬ r.1.1 = 0 → r.1.1 = 1) (h0 : ∀ r, P r → r.1.1 = 0 → Tm (fun k => f k r) (fun q => Q (q.1, q.2.1, (r.2.2.1 + q.2.2.1, r.2.2.2 + q.2.2.2)))) (hc : ∀ r, P r → r.1.1 = 1 → Tm (fun k => g k r) (fun q => Q (q.1, q.2.1, (r.2.2.1 + q.2.2.1, r.2.2.2 + q.2.2.2)))) : Tm (fun k => oh (gg k) (f k) (g k)) Q := by
  obtain ⟨r, k0, y1, y2⟩ := t
  by_cases e : r.1.1 = 0
  · obtain ⟨q, k1, y3, y4⟩ := h0 r y2 e
    refine ⟨(q.1, q.2.1, (r.2.2.1 + q.2.2.1, r.2.2.2 + q.2.2.2)), max k0 k1, fun k hk => ?_, y4⟩
    show oh (gg k) (f k) (g k) = _
    rw [y1 k (by omega)]
    show (if r.1.1 = 0 then adR r.2.2 (f k r) else if r.1.1 = 1 then adR r.2.2 (g k r) else none) = _
    rw [if_pos e, show f k r = some q from y3 k (by omega)]; rfl
  · have e1 := h1 r y2 e
    obtain ⟨q, k1, y3, y4⟩ := hc r y2 e1
    refine ⟨(q.1, q.2.1, (r.2.2.1 + q.2.2.1, r.2.2.2 + q.2.2.2)), max k0 k1, fun k hk => ?_, y4⟩
    show oh (gg k) (f k) (g k) = _
    rw [y1 k (by omega)]
    show (if r.1.1 = 0 then adR r.2.2 (f k r) else if r.1.1 = 1 then adR r.2.2 (g k r) else none) = _
    rw [if_neg e, if_pos e1, show g k r = some q from y3 k (by omega)]; rfl
theorem c_note : Tm (fun k => y_X5_noteFault k 0 L σ) (fun r => (∀ j, ¬ (j = 4006 ∨ j = 4007) → r.2.1 j = σ.1 j) ∧ r.2.2 = σ.2) := by
  refine Tm_suc (fun k => by rw [y_X5_noteFault]) ?_
  refine Tm_ite (fun _ => ?_) (fun _ => ?_)
  · refine Tm_suc (fun k => by rw [y_X5_noteFault]) ?_
    exact Tm_some ⟨fun j hj => by rw [uI_o (by omega), uI_o (by omega)], rfl⟩
  · refine Tm_suc (fun k => by rw [y_X5_noteFault]) ?_
    exact Tm_some ⟨fun j hj => rfl, rfl⟩
theorem DK_n (h : DK b sz σ τ) (f1 : ∀ j, ¬ (4003 ≤ j ∧ j ≤ 4020) → τ'.1 j = τ.1 j) (f2 : τ'.2 = τ.2) : DK b sz σ τ' := by
  obtain ⟨a', r'⟩ := τ'
  obtain ⟨a0, r0⟩ := τ
  have e : r' = r0 := f2
  subst e
  exact ⟨⟨fun j hj => (f1 j (by omega)).trans (h.1.1 j hj), h.1.2⟩, h.2⟩
/-- what a method leaves that catches what is thrown in it -/
def RPo (b : Bool) (sz0 : Nat) {α : Type} (x : Option α) (S : α → CS → Prop) (σ0 : CS) (a1 a2 : Nat) (r : RS) : Prop := r.1.1 = 0 ∧ (∀ t, x = some t → r.1.2 = 1 ∧ S t r.2.1) ∧ (x = none → r.1.2 = 0) ∧ (a1 + r.2.2.1 + PhC r.2.1 ≤ PhC σ0 + 1 ∧ a2 + r.2.2.2 + PhS r.2.1 ≤ PhS σ0 + 6) ∧ DK b sz0 σ0 r.2.1
theorem RPo_s {n1 n2 : Nat} {r : RS} (h : RPo b sz0 x S σ0 (a1 + n1) (a2 + n2) r) : RPo b sz0 x S σ0 a1 a2 (r.1, r.2.1, (n1 + r.2.2.1, n2 + r.2.2.2)) := by
  obtain ⟨h1, h2, h3, h4, h5⟩ := h
  refine ⟨h1, h2, h3, ?_, h5⟩
  show a1 + (n1 + r.2.2.1) + PhC r.2.1 ≤ PhC σ0 + 1 ∧ a2 + (n2 + r.2.2.2) + PhS r.2.1 ≤ PhS σ0 + 6
  omega
/-- a call within try -/
theorem rt_callD {z : Option β} {R : β → Int32 → CS → Prop} {gg : Nat → Option RS} {f : Nat → RS → Option RS} (h : Dy b σ0 sz0 a1 a2 τ) (hs : sz0 ≤ sz) (t : Tm gg (DPo b sz z R τ 0 0)) (hx : (z = none ∧ x = none) ∨ ∃ s, z = some s ∧ ∀ (τ' : CS) (ret : Int32) (n1 n2 : Nat), R s ret τ' → DK b sz τ τ' → Dy b σ0 sz0 (a1 + n1) (a2 + n2) τ' → Tm (fun k => f k ((0, ret), τ', (n1, n2))) (RPo b sz0 x S σ0 (a1 + n1) (a2 + n2))) : Tm (fun k => oh (gg k) (f k) (fun r => op (y_X5_noteFault k 0 lZ r.2.1) (fun r2 => some ((0, 0), r2.2, (0, 0))))) (RPo b sz0 x S σ0 a1 a2) := by
  obtain ⟨h1, h2, h3⟩ := h
  refine Tm_oh (g := fun k r => op (y_X5_noteFault k 0 lZ r.2.1) (fun r2 => some ((0, 0), r2.2, (0, 0)))) t (fun r w nz => ?_) (fun r w e0 => ?_) (fun r w e1 => ?_)
  · cases z with
    | none => exact w.2.1 rfl
    | some s => exact absurd (w.1 s rfl).1 nz
  · rcases hx with ⟨e1, e2⟩ | ⟨s, e1, cont⟩
    · exact absurd (w.2.1 e1) (by rw [e0]; decide)
    · have y := w.2.2.1 e0
      have k := cont r.2.1 r.1.2 r.2.2.1 r.2.2.2 (w.1 s e1).2 w.2.2.2.2 ⟨DK_t h1 w.2.2.2.2 hs, by omega, by omega⟩
      have er : ((0, r.1.2), r.2.1, (r.2.2.1, r.2.2.2)) = r := by
        rw [← e0]
      rw [er] at k
      exact Tm_mono k (fun q z => RPo_s z)
  · rcases hx with ⟨e2, e3⟩ | ⟨s, e2, _⟩
    · refine Tm_op c_note (fun r2 w2 => Tm_some ?_)
      have y := w.2.2.2.1 (by rw [e1]; decide)
      have ph := Ph_s (σ := r.2.1) (σ' := r2.2) (by rw [w2.2])
      rw [e3]
      refine ⟨rfl, fun t e => (by cases e), fun _ => rfl, ?_, DK_n (DK_t h1 w.2.2.2.2 hs) (fun j hj => w2.1 j (by omega)) w2.2⟩
      show a1 + (r.2.2.1 + 0) + PhC r2.2 ≤ PhC σ0 + 1 ∧ a2 + (r.2.2.2 + 0) + PhS r2.2 ≤ PhS σ0 + 6
      omega
    · exact absurd (w.1 s e2).1 (by rw [e1]; decide)
theorem rt_callZ {z : Option β} {R : β → Int32 → CS → Prop} {gg : Nat → Option RS} {f : Nat → RS → Option RS} (h : Dy b σ0 sz0 a1 a2 τ) (hs : sz0 ≤ sz) (t : Tm gg (ZPo b u nc sz mk z R τ 0 0)) (hx : (z = none ∧ x = none) ∨ ∃ s, z = some s ∧ ∀ (τ' : CS) (ret : Int32) (n1 n2 : Nat), R s ret τ' → ZK b u nc sz mk τ τ' → Dy b σ0 sz0 (a1 + n1) (a2 + n2) τ' → Tm (fun k => f k ((0, ret), τ', (n1, n2))) (RPo b sz0 x S σ0 (a1 + n1) (a2 + n2))) (hu : ¬ u = 41 := by omega) : Tm (fun k => oh (gg k) (f k) (fun r => op (y_X5_noteFault k 0 lZ r.2.1) (fun r2 => some ((0, 0), r2.2, (0, 0))))) (RPo b sz0 x S σ0 a1 a2) :=
  rt_callD (R := fun s y τ' => R s y τ' ∧ ZK b u nc sz mk τ τ') h hs (Tm_mono t (fun r w => ⟨fun t e => ⟨(w.1 t e).1, (w.1 t e).2, w.2.2.2.2⟩, w.2.1, w.2.2.1, w.2.2.2.1, DK_Z w.2.2.2.2 hu⟩)) (hx.imp id (fun ⟨s, e, c⟩ => ⟨s, e, fun τ' ret n1 n2 r _ dy => c τ' ret n1 n2 r.1 r.2 dy⟩))
theorem rt_callQ {z : Option β} {R : β → Int32 → CS → Prop} {gg : Nat → Option RS} {f : Nat → RS → Option RS} (h : Dy b σ0 sz0 a1 a2 τ) (hs : sz0 ≤ sz) (t : Tm gg (QPo b u nc sz mk z R τ 0 0)) (hx : (z = none ∧ x = none) ∨ ∃ s, z = some s ∧ ∀ (τ' : CS) (ret : Int32) (n1 n2 : Nat), R s ret τ' → XK b u nc sz mk τ τ' → Dy b σ0 sz0 (a1 + n1) (a2 + n2) τ' → Tm (fun k => f k ((0, ret), τ', (n1, n2))) (RPo b sz0 x S σ0 (a1 + n1) (a2 + n2))) : Tm (fun k => oh (gg k) (f k) (fun r => op (y_X5_noteFault k 0 lZ r.2.1) (fun r2 => some ((0, 0), r2.2, (0, 0))))) (RPo b sz0 x S σ0 a1 a2) :=
  rt_callD (R := fun s y τ' => R s y τ' ∧ XK b u nc sz mk τ τ') h hs (Tm_mono t (fun r w => ⟨fun t e => ⟨(w.1 t e).1, (w.1 t e).2, w.2.2.2.2⟩, w.2.1, w.2.2.1, w.2.2.2.1, DK_X w.2.2.2.2⟩)) (hx.imp id (fun ⟨s, e, c⟩ => ⟨s, e, fun τ' ret n1 n2 r _ dy => c τ' ret n1 n2 r.1 r.2 dy⟩))
theorem Rfin {t : α} (h : Dy b σ0 sz0 a1 a2 τ) (hs : S t τ) : RPo b sz0 (some t) S σ0 a1 a2 ((0, 1), τ, (0, 0)) := ⟨rfl, fun t' e => by cases e; exact ⟨rfl, hs⟩, fun e => (by cases e), ⟨by have := h.2.1; show a1 + 0 + PhC τ ≤ _; omega, by have := h.2.2; show a2 + 0 + PhS τ ≤ _; omega⟩, h.1⟩
/-- a program as it is read: its code from N0 on -/
def PFn (b : Bool) (N0 K : Nat) (g : PRG) (σ : CS) : Prop := ∃ (c : Ct) (N vg e0 : Nat), (CdL b N σ ∧ TbR b (tbE 0 g.2.1) σ ∧ DE g.2.1 0 vg g.2.2.2.1 vg) ∧ (σ.1 (fP b 12) = nI g.2.2.2.1 ∧ σ.2.2.1 (pR18 b) 41 = 0 ∧ σ.2.2.1 (pR18 b) 0 = nI vg) ∧ UTb b g.2.2.2.1 c g.2.2.1 σ ∧ PgT g.2.1 vg g.2.2.2.1 N0 vg c ∧ (tcN c = N ∧ (N0 ≤ e0 ∧ e0 < N) ∧ ∀ i, N0 ≤ i → i < N → cdr b σ i = tcC c i) ∧ (σ.1 (fP b 2) = nI e0 ∧ tcD c e0 = some (0, 0, (bsl + vg) :: Vl vg, 2)) ∧ 2 * N + 108 ≤ K
/-- what the grammar has behind the declarations -/
def gPe (T : Nat → Int32) (n : Nat) (g : PRG) : Option (Option (PRG × ST)) := pb (GS T n g.2.2.1 (fu n) 0 g.2.1 0 0 g.1 g.2.2.2.2.2.1 (-1) 0 0 g.2.2.2.2.2.2.1 g.2.2.2.2.2.2.2.1) (fun t => if tkK T n t.1 = 25 then some (some (g, t)) else some none)
/-- unit 0 begins -/
theorem un_0 (h : PgT E vg nc N0 W c) (hN0 : N0 ≤ tcN c) : TI noP noP nc RK (mkc c (tcC c) (tcN c) (fun p => if p = tcN c then some (0, 0, (bsl + W) :: Vl W, 2) else tcD c p)) ∧ PgU E vg nc N0 W (mkc c (tcC c) (tcN c) (fun p => if p = tcN c then some (0, 0, (bsl + W) :: Vl W, 2) else tcD c p)) := by
  obtain ⟨t, hD, pg⟩ := h
  refine ⟨TI_tb (On := False) (y := some (0, 0, (bsl + W) :: Vl W, 2)) t (fun _ _ => rfl) rfl (fun u => Or.inl (CtG_r noP u nc c)) (Nat.le_refl _) (Or.inl hD) (fun p => rfl) (fun p => ⟨fun z => z.elim, fun z => z.elim id (fun w => w.2)⟩) (fun z => z.elim) (Nat.le_refl _), PgU_k pg (Nat.le_refl _) (fun q y e => ?_) (fun q y e => ?_)⟩
  · show (if q = tcN c then some (0, 0, (bsl + W) :: Vl W, 2) else tcD c q) = some y
    rw [if_neg (fun z => by rw [z, hD] at e; cases e)]
    exact e
  · by_cases z : q = tcN c
    · omega
    · have e' : (if q = tcN c then some (0, 0, (bsl + W) :: Vl W, 2) else tcD c q) = some y := e
      rw [if_neg z] at e'
      exact pg.1 q y e'
/-- the statements of the program, and its end -/
theorem c_rp2 {X : Option (PRG × ST)} (h : DSt T n b N0 W K g τ) (hW : W = g.2.2.2.2.2.1) (dy : Dy b σ0 N0 a1 a2 τ) (hL : L.2.2.1 1 = b) (hG : gPe T n g = some X) : Tm (fun k => f_X5_readProgram__P k 2 L τ) (RPo b N0 X (fun t τ' => PFn b N0 K t.1 τ') σ0 a1 a2) := by
  obtain ⟨c, N, vg, ⟨h1, h2, h3⟩, ⟨h4, h5, h6, h41⟩, ut, pg, ⟨eN, hN0, hcd⟩, ⟨bd1, bd2, bd3, bd4, hK⟩⟩ := h
  have hGe : pb (GS T n g.2.2.1 (fu n) 0 g.2.1 0 0 g.1 g.2.2.2.2.2.1 (-1) 0 0 g.2.2.2.2.2.2.1 g.2.2.2.2.2.2.2.1) (fun t => if tkK T n t.1 = 25 then some (some (g, t)) else some none) = some X := hG
  have eg : ∀ t τ', (X = some t → t.1 = g) → (PFn b N0 K g τ' → X = some t → PFn b N0 K t.1 τ') := fun t τ' e z w => by rw [e w]; exact z
  have evg : vg = g.2.2.2.2.2.1 := (h3.1.2.1 rfl).2
  have e2 : g.2.1.2.1 = [] := (h3.1.2.1 rfl).1
  have qn : g.1 ≤ n := h1.1.2.2.2.1
  have v60 : g.2.2.2.2.2.1 ≤ 60 := h3.2.1.2.2.2
  have nc40 : g.2.2.2.1 ≤ 40 := h3.2.1.2.2.1
  have tl : (tbE 0 g.2.1).length = g.2.1.1.length := by rw [tbE_l, e2]; rfl
  have el := h3.2.1
  have fn := fP_ns b
  have f9 := fP_19 b
  have e1N : τ.1 (fP b 1) = nI N := h1.2.1.1
  refine Tm_suc (fun k => by rw [f_X5_readProgram__P]) ?_
  rw [hL, e1N]
  have h16 := h1.2.2.2.2.2.2.1.1
  obtain ⟨q1, dk1⟩ := QS_ww (σ' := uI τ (fP b 2) (nI N)) (u' := 0) (al' := 2) (v' := g.2.2.2.2.2.1) (p' := 0) h1 (fun j hj => uI_o (by omega)) rfl (fun _ _ => rfl) rfl (by rw [uI_o (by omega)]; exact h1.2.2.2.2.1.2.1) (by rw [uI_o (by omega)]; exact h1.2.2.2.2.1.2.2) h16 v60 (by rw [uI_o (by omega)]; exact h1.2.2.2.2.2.2.2)
  have zf1 : ZF b 0 g.2.2.2.2.2.1 g.2.2.2.2.2.2.2.1.1 none 0 (uI τ (fP b 2) (nI N)) := ⟨h2.1, ⟨by rw [uI_o (by omega)]; exact h2.2.1.1, h2.2.1.2⟩, by rw [uI_o (by omega)]; exact h2.2.2.1, by rw [uI_o (by omega)]; exact h2.2.2.2.1, h2.2.2.2.2⟩
  have ph1 := Ph_s (σ := τ) (σ' := uI τ (fP b 2) (nI N)) rfl
  have dy1 : Dy b σ0 N0 a1 a2 (uI τ (fP b 2) (nI N)) := ⟨DK_t dy.1 dk1 hN0, by have := dy.2.1; omega, by have := dy.2.2; omega⟩
  obtain ⟨ti, pgu⟩ := un_0 pg (by omega)
  have sx := StX_P (σ := uI τ (fP b 2) (nI N)) h3 pg.2.2 ut (by omega) h4 h5 bd4
  have cx : CxS n g.2.1 b 0 2 (glD g.2.1 vg) (VmD g.2.2.2.2.2.1) (PcD g.2.1) g.2.2.1 (tbE 0 g.2.1) 0 none (uI τ (fP b 2) (nI N)) := ⟨sx, h3.1.1, by omega, ⟨fun _ => rfl, fun _ => rfl⟩, fun p e => by cases e⟩
  have bdb : BdB n 0 g.1 g.2.2.2.2.2.1 0 N g.2.2.2.2.2.1 (tbE 0 g.2.1).length := ⟨by omega, by omega, by omega, by omega⟩
  have gz : ∃ x, GS T n g.2.2.1 (fu n) 0 g.2.1 0 0 g.1 g.2.2.2.2.2.1 (-1) 0 0 g.2.2.2.2.2.2.1 g.2.2.2.2.2.2.2.1 = some x := by
    rcases pb_any hGe with ⟨z, _⟩ | ⟨t, z, _⟩
    · exact ⟨_, z⟩
    · exact ⟨_, z⟩
  obtain ⟨xs, hxs⟩ := gz
  obtain ⟨z, bem, blk⟩ := PBk_all (T := T) (n := n) (b := b) (u := 0) (al := 2) (MD := g.2.2.1) (fu n) g.2.1 0 0 g.1 g.2.2.2.2.2.1 (-1) 0 0 g.2.2.2.2.2.2.1 g.2.2.2.2.2.2.2.1 xs qn v60 bd3 bd2 hxs
  have t0 := blk 120 (glD g.2.1 vg) (PcD g.2.1) (VmD g.2.2.2.2.2.1) (tbE 0 g.2.1) 0 N g.2.2.2.2.2.1 none 0 (uI τ (fP b 2) (nI N)) lZ q1 zf1 cx bdb (by omega)
  rw [hxs] at hGe
  rcases bem with ⟨z1, z2⟩ | ⟨r, z1, z2⟩
  · rw [z2] at hGe
    rw [(Option.some.inj hGe).symm]
    rw [z1] at t0
    exact rt_callZ (z := none) dy1 hN0 t0 (Or.inl ⟨rfl, rfl⟩)
  rw [z1] at t0
  refine rt_callZ (z := some r) dy1 hN0 t0 (Or.inr ⟨_, rfl, fun τ1 ret1 n1 n2 r1 zk1 dy2 => ?_⟩)
  obtain ⟨cs, qs, ns, q2, cd1, zf2, sm, js, ⟨ln, lns, lqs⟩, lq, lv⟩ := r1
  have qs0 : qs = [] := List.eq_nil_of_length_eq_zero (Nat.le_zero.1 lqs)
  rw [qs0] at sm zf2 js
  have r1n : r.1 ≤ n := q2.1.2.2.2.1
  have hNc : N0 ≤ N + cs.length := by omega
  rcases z2 with ⟨z3, z4⟩ | ⟨t, z3, z4, z5, z6⟩
  · rw [z3] at hGe
    rw [(Option.some.inj hGe).symm]
    exact rt_callQ (z := none) dy2 hNc (c_wantQ (kk := 25) q2 (by decide) rfl (Or.inl ⟨fun e => z4 (Or.inl e), rfl⟩)) (Or.inl ⟨rfl, rfl⟩)
  rw [z3] at hGe
  have hG2 : (if tkK T n t.1 = 25 then some (some (g, t)) else some none) = some X := hGe
  rw [z4] at hG2
  by_cases k25 : ¬ tkK T n r.1 = 25
  · rw [if_neg k25] at hG2
    rw [(Option.some.inj hG2).symm]
    exact rt_callQ (z := none) dy2 hNc (c_wantQ (kk := 25) q2 (by decide) rfl (Or.inl ⟨k25, rfl⟩)) (Or.inl ⟨rfl, rfl⟩)
  have k25 := Classical.not_not.1 k25
  rw [if_pos k25] at hG2
  rw [(Option.some.inj hG2).symm]
  refine rt_callQ (z := some _) dy2 hNc (c_wantQ (kk := 25) q2 (by decide) rfl (Or.inr ⟨k25, rfl⟩)) (Or.inr ⟨_, rfl, fun τ2 ret2 n3 n4 r2 xk2 dy3 => ?_⟩)
  have r2' : τ2 = τ1 := r2
  rw [r2'] at dy3 ⊢
  refine rt_callQ (z := some ()) dy3 hNc (c_emitQ (oq := 1) q2 rfl rfl (by omega)) (Or.inr ⟨_, rfl, fun τ4 ret4 n7 n8 r4 xk4 dy4 => ?_⟩)
  obtain ⟨q4, cd4⟩ := r4
  refine Tm_some (Rfin dy4 ?_)
  show PFn b N0 K g τ4
  have zk4 := ZK_t zk1 (ZK_of xk4) (Nat.le_refl _) (Nat.le_add_right _ _) (Nat.le_refl _)
  have eNu : tcN (mkc c (tcC c) (tcN c) (fun p => if p = tcN c then some (0, 0, (bsl + W) :: Vl W, 2) else tcD c p)) = N := eN
  have hF0 : tcF c 0 = g.2.2.2.2.2.1 := by rw [pg.2.2.2.1.1.2, hW]
  have hD0 : tcD (mkc c (tcC c) (tcN c) (fun p => if p = tcN c then some (0, 0, (bsl + W) :: Vl W, 2) else tcD c p)) N = some (0, 0, (bsl + g.2.2.2.2.2.1) :: Vl g.2.2.2.2.2.1, 2) := by
    show (if N = tcN c then some (0, 0, (bsl + W) :: Vl W, 2) else tcD c N) = _
    rw [if_pos eN.symm, hW]
  have hC1 : ∀ i, i < N → cdX N0 c b τ4 i = tcC c i := fun i hi => by
    by_cases z : i < N0
    · show (if i < N0 then tcC c i else cdr b τ4 i) = _
      rw [if_pos z]
    · rw [cdX_2 (by omega), (xk4.2.2.2.2.2.1 i (by omega)).1, (zk1.2.2.2.2.2.1 i hi).1]
      exact hcd i (by omega) hi
  have cdA : ∀ i, i < cs.length → cdX N0 c b τ4 (N + i) = cs.getD i 0 := fun i hi => by
    rw [cdX_2 (by omega), (xk4.2.2.2.2.2.1 (N + i) (by omega)).1]
    exact cd1 i hi
  have st4 := zf2.2.1.2
  obtain ⟨D, pgt, hDe⟩ := Un_0 (C := cdX N0 c b τ4) (cs := cs) (F := g.2.2.2.2.2.1) (Bd := bdO 0 g.2.2.2.2.2.1) (ns := ns) ti pgu nc40 hF0 (by omega) (by show (if tcN c = tcN c then some (0, 0, (bsl + W) :: Vl W, 2) else tcD c (tcN c)) = _; rw [if_pos rfl, hW]) (by rw [eNu]; exact hN0) (by rw [eNu]; exact sm) (by unfold bdO; omega) (by omega) (by rw [eNu]; omega) (by rw [eNu]; exact hC1) (by rw [eNu]; exact cdA) (by rw [eNu, cdX_2 (by omega)]; exact cd4)
  rw [eNu] at pgt hDe
  have zf4 : ZF b 0 g.2.2.2.2.2.1 r.2.2 none 0 τ4 := ZF_k zf2 xk4
  have e4 : ∀ j, ¬ (j = fP b 1 ∨ j = fP b 3 ∨ j = fP b 11 ∨ j = fP b 19) → fP b 1 ≤ j → j ≤ fP b 19 → τ4.1 j = (uI τ (fP b 2) (nI N)).1 j := fun j hj a1 a2 => zk4.1.1 j (by omega)
  have ut4 : UTb b g.2.2.2.1 (mkc c (cdX N0 c b τ4) (N + cs.length + 1) D) g.2.2.1 τ4 := by
    intro i hi
    have e13 := ZK_13 zk4
    obtain ⟨⟨y1, y2, y3⟩, y4⟩ := ut i hi
    refine ⟨⟨by rw [e13.1]; exact y1, by rw [e13.2.1]; exact y2, ?_⟩, fun j hj => by rw [e13.2.2]; exact y4 j hj⟩
    rw [(UnK_Z zk4 (i + 1) (by omega)).2.2]
    exact y3
  subst evg
  rw [hW] at pgt
  refine ⟨mkc c (cdX N0 c b τ4) (N + cs.length + 1) D, N + cs.length + 1, g.2.2.2.2.2.1, N, ⟨q4.2.1, q4.2.2.2.1, h3⟩, ⟨by rw [ZK_12 zk4, uI_o (by omega)]; exact h6, ?_, zf4.1⟩, ut4, pgt, ⟨rfl, ⟨hN0, by omega⟩, fun i a1 a2 => (cdX_2 a1).symm⟩, ⟨by rw [e4 _ (by omega) (by omega) (by omega), uI_s], hDe⟩, by omega⟩
  rw [(UnK_Z zk4 41 (by omega)).2.2]
  exact h41
end DYM
