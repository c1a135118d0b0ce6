section JnS562
/-! The class: an exp that is asked for is read. -/
section DZK
variable {σ σ1 σ2 σ3 s s' τ τ' : CS} {ρ : MS} {b : Bool} {N N0 M W n nc sz mk a1 a2 vg nu al f : Nat} {E : En} {c : Ct} {MD : Nat → Nat → Nat} {bt : BT} {L : LV} {β : Type} {x : Fl RT}
/-- behind it: refused, or its code lies at N -/
def RxO (b : Bool) (N M n : Nat) (E : En) (vg : Nat) (x : Fl RT) (σ : CS) (a1 a2 : Nat) (r : RS) : Prop := r.1.1 = 0 ∧ (a1 + r.2.2.1 + PhC r.2.1 ≤ PhC σ + 1 ∧ a2 + r.2.2.2 + PhS r.2.1 ≤ PhS σ + 6) ∧ RxF b N M n σ r.2.1 ∧ r.2.1.1 (fP b 11) = nI M ∧ (∀ y, x = Sum.inl y → (r.1.2 = 0 ∧ r.2.1.1 (fP b 1) = nI N) ∧ r.2.1.1 4006 = nI y.1 ∧ r.2.1.1 4007 = nI y.2) ∧ ∀ t, x = Sum.inr t → (r.1.2 = 1 ∧ r.2.1.1 4006 = 0) ∧ ∃ cs : List Int32, CdL b (N + cs.length + 1) r.2.1 ∧ (∀ i, i < cs.length → cdr b r.2.1 (N + i) = cs.getD i 0) ∧ cdr b r.2.1 (N + cs.length) = em 10 0 ∧ Sgm 41 0 (glD E vg) (VmD 0) 1 cs ∧ 2 * cs.length ≤ 3 * n + 1
def RxY (b : Bool) (N M n : Nat) (σ : CS) (a1 a2 : Nat) (τ : CS) : Prop := RxF b N M n σ τ ∧ a1 + PhC τ ≤ PhC σ ∧ a2 + PhS τ ≤ PhS σ
theorem RxO_s {n1 n2 : Nat} {r : RS} (h : RxO b N M n E vg x σ (a1 + n1) (a2 + n2) r) : RxO b N M n E vg x σ a1 a2 (r.1, r.2.1, (n1 + r.2.2.1, n2 + r.2.2.2)) := by
  obtain ⟨h1, h2, h3⟩ := h
  refine ⟨h1, ?_, h3⟩
  show a1 + (n1 + r.2.2.1) + PhC r.2.1 ≤ PhC σ + 1 ∧ a2 + (n2 + r.2.2.2) + PhS r.2.1 ≤ PhS σ + 6
  omega
/-- what was thrown is caught: all is set back -/
theorem rx_no {ye : Nat × Nat} (h : RxF b N M n σ τ) (c1 : a1 + PhC τ ≤ PhC σ + 1) (c2 : a2 + PhS τ ≤ PhS σ + 6) (hx : x = Sum.inl ye) (hf : FltC ye τ) : Tm (fun k => op (y_X5_noteFault k 0 lZ τ) (fun r2 => some ((0, 0), uI (uI r2.2 (fP b 1) (nI N)) (fP b 11) (nI M), (0, 0)))) (RxO b N M n E vg x σ a1 a2) := by
  have fn := fP_ns b
  have f9 := fP_19 b
  refine Tm_op c_note (fun r2 w2 => Tm_some ?_)
  obtain ⟨w3, w4, w5⟩ := w2
  obtain ⟨w6, w7⟩ := w5 ye hf
  have ph := Ph_s (σ := τ) (σ' := uI (uI r2.2 (fP b 1) (nI N)) (fP b 11) (nI M)) (by show r2.2.2.2.2.2.1 = _; rw [w4])
  refine ⟨rfl, ?_, RxF_u h (fun j hj => ?_) w4, uI_s, fun y e => ?_, fun t e => by rw [hx] at e; cases e⟩
  · show a1 + 0 + PhC (uI (uI r2.2 (fP b 1) (nI N)) (fP b 11) (nI M)) ≤ PhC σ + 1 ∧ a2 + 0 + PhS (uI (uI r2.2 (fP b 1) (nI N)) (fP b 11) (nI M)) ≤ PhS σ + 6
    omega
  · show (uI (uI r2.2 (fP b 1) (nI N)) (fP b 11) (nI M)).1 j = τ.1 j
    rw [uI_o (by omega), uI_o (by omega)]
    exact w3 j (by omega)
  · rw [hx] at e
    cases e
    refine ⟨⟨rfl, ?_⟩, ?_, ?_⟩
    · show (uI (uI r2.2 (fP b 1) (nI N)) (fP b 11) (nI M)).1 (fP b 1) = nI N
      rw [uI_o (by omega), uI_s]
    · show (uI (uI r2.2 (fP b 1) (nI N)) (fP b 11) (nI M)).1 4006 = _
      rw [uI_o (by omega), uI_o (by omega)]
      exact w6
    · show (uI (uI r2.2 (fP b 1) (nI N)) (fP b 11) (nI M)).1 4007 = _
      rw [uI_o (by omega), uI_o (by omega)]
      exact w7
/-- a call within try -/
theorem rx_call {z : Fl β} {R : β → Int32 → CS → Prop} {gg : Nat → Option RS} {ff : Nat → RS → Option RS} (h : RxY b N M n σ a1 a2 τ) (hM : M ≤ nc) (hN : N ≤ sz) (t : Tm gg (QPo b 41 nc sz mk z R τ 0 0)) (hx : (∃ ye, z = Sum.inl ye ∧ x = Sum.inl ye) ∨ ∃ s, z = Sum.inr s ∧ ∀ (τ' : CS) (ret : Int32) (n1 n2 : Nat), R s ret τ' → XK b 41 nc sz mk τ τ' → RxY b N M n σ (a1 + n1) (a2 + n2) τ' → Tm (fun k => ff k ((0, ret), τ', (n1, n2))) (RxO b N M n E vg x σ (a1 + n1) (a2 + n2))) : Tm (fun k => oh (gg k) (ff k) (fun r => op (y_X5_noteFault k 0 lZ r.2.1) (fun r2 => some ((0, 0), uI (uI r2.2 (fP b 1) (nI N)) (fP b 11) (nI M), (0, 0))))) (RxO b N M n E vg x σ a1 a2) := by
  obtain ⟨h1, h2, h3⟩ := h
  refine Tm_oh (g := fun k r => op (y_X5_noteFault k 0 lZ r.2.1) (fun r2 => some ((0, 0), uI (uI r2.2 (fP b 1) (nI N)) (fP b 11) (nI M), (0, 0)))) t (fun r w nz => ?_) (fun r w e0 => ?_) (fun r w e1 => ?_)
  · cases z with
    | inl yf => exact (w.2.1 _ rfl).1
    | inr s => exact absurd (w.1 s rfl).1 nz
  · rcases hx with ⟨y0, e1, e2⟩ | ⟨s, e1, cont⟩
    · exact absurd (w.2.1 y0 e1).1 (by rw [e0]; decide)
    · have y := w.2.2.1 e0
      have k := cont r.2.1 r.1.2 r.2.2.1 r.2.2.2 (w.1 s e1).2 w.2.2.2.2 ⟨RxF_x h1 w.2.2.2.2 hM hN, by omega, by omega⟩
      have er : ((0, r.1.2), r.2.1, (r.2.2.1, r.2.2.2)) = r := by
        rw [← e0]
      rw [er] at k
      exact Tm_mono k (fun q z => RxO_s z)
  · rcases hx with ⟨y0, e2, e3⟩ | ⟨s, e2, _⟩
    · have y := w.2.2.2.1 (by rw [e1]; decide)
      exact Tm_mono (rx_no (a1 := a1 + r.2.2.1) (a2 := a2 + r.2.2.2) (RxF_x h1 w.2.2.2.2 hM hN) (by omega) (by omega) e3 (w.2.1 y0 e2).2) (fun q z => RxO_s z)
    · exact absurd (w.1 s e2).1 (by rw [e1]; decide)
theorem c_readExp (hok : tOK σ) (hl : σ.1 3701 = nI n) (hn : n ≤ 10240) (hw : σ.2.2.2.1 39 = lxW) (ht : tRel σ ρ) (cd : CdL b N σ) (h41 : sN σ 41 ≤ 21504) (tb : TbR b (tbE 0 E) σ) (de : DE E 0 vg nu vg) (pgu : PgU E vg nu N0 W c) (ut : UTb b nu c MD σ) (bd : 2 * N + 3 * n + 102 ≤ 73728) (hL : L.2.2.1 1 = b) (hA : L.1 2 = nI al) (hal : al ≤ 1) (hG : gX (ρ.2.2 3) n f (E.1, [], [], 42, false, decide (al = 1), E.2.2.2.2.2.2) bt = some x) : Tm (fun k => f_X5_readExp__P k 0 L σ) (RxO b N (tbE 0 E).length n E vg x σ 0 0) := by
  have fn := fP_ns b
  have f9 := fP_19 b
  have p13 := pR_13 b
  have hsk : sk (ρ.2.2 3) n 0 ≤ n := skE_le (ρ.2.2 3) n (n + 1) 0 (Nat.zero_le _)
  have nl : E.2.1 = [] := (de.1.2.1 rfl).1
  have e1N : σ.1 (fP b 1) = nI N := cd.1
  have e11 : σ.1 (fP b 11) = nI (tbE 0 E).length := tb.1
  have tbl : (tbE 0 E).length = E.1.length := by rw [tbE_l, nl]; rfl
  have tbe : tbE 0 E = tbE 41 (E.1, [], [], 41, false, decide (al = 1), E.2.2.2.2.2.2) := by
    unfold tbE
    rw [nl]
    rfl
  refine Tm_suc (fun k => by rw [f_X5_readExp__P]) ?_
  rw [hL, e1N, e11, hA]
  refine Tm_op (c_openUnit (L := lI (lB lZ 0 b) 1 41) (u := 41) (b := b) (by decide) rfl rfl) (fun r1 e1 => ?_)
  rw [e1]
  generalize hs1 : opU b 41 (σ.1 (fP b 1)) σ = σ1
  have s1f : ∀ j, ¬ j = fP b 19 → σ1.1 j = σ.1 j := fun j hj => by rw [← hs1]; exact opU_f hj
  have s119 : σ1.1 (fP b 19) = 0 := by rw [← hs1]; exact opU_19
  have s116 : σ1.2.2.1 (pR16 b) 41 = 0 := by rw [← hs1, opU_16, upd_same]
  have s1k : ∀ k, ¬ (k = pR13 b ∨ k = pR14 b ∨ k = pR15 b ∨ k = pR16 b ∨ k = pR17 b ∨ k = pR18 b) → σ1.2.2.1 k = σ.2.2.1 k := fun k hk => by rw [← hs1]; exact opU_k hk
  have s12 : σ1.2.2.2 = σ.2.2.2 := by rw [← hs1]; exact opU_2.2
  have n1 : sN σ1 = sN σ := by show σ1.2.2.2.2.1 = _; rw [s12]
  have hok1 : tOK σ1 := by
    unfold tOK at hok ⊢
    rw [s1f 3701 (by omega), n1, s1k 38 (by omega)]
    exact hok
  have hl1 : σ1.1 3701 = nI n := (s1f 3701 (by omega)).trans hl
  have ht1 : tRel σ1 ρ := tRel_s ht (s1f 3701 (by omega)) (s1k 38 (by omega))
  have ph1 := Ph_s (σ := σ) (σ' := σ1) n1
  refine Tm_oxc (c_begin5 hok1 hl1 (by omega) ht1 (L := lI (lI (lB lZ 1 b) 2 41) 3 (nI al)) rfl) (fun r h => by rw [h.1]) (fun r h => ?_)
  obtain ⟨⟨q1, q2⟩, σ2, ⟨n1', n2'⟩⟩ := r
  obtain ⟨-, co, bg, sm, e4, ⟨p1, p2, p3⟩, ⟨p4, p5, p6, p7, p8, p9⟩⟩ := h
  have bg0 := bg
  obtain ⟨⟨a1, a2⟩, ⟨a3, a4⟩, ⟨⟨a5, a6, a7, a8⟩, a9⟩, a10⟩ := bg
  have co1 : n1' + PhC σ2 ≤ PhC σ1 := co.1
  have co2 : n2' + PhS σ2 ≤ PhS σ1 := co.2
  have adv := c_advP (L := lZ) a10 sm (by rw [a4, s12]; exact hw) e4 (Nat.zero_le n)
  unfold gX at hG
  refine Tm_mono (Q := RxO b N (tbE 0 E).length n E vg x σ n1' n2') ?_ (fun q z => RxO_s (a1 := 0) (a2 := 0) (n1 := n1') (n2 := n2') (by rw [Nat.zero_add, Nat.zero_add]; exact z))
  refine Tm_oh (g := fun k r => op (y_X5_noteFault k 0 lZ r.2.1) (fun r2 => some ((0, 0), uI (uI r2.2 (fP b 1) (nI N)) (fP b 11) (nI (tbE 0 E).length), (0, 0)))) adv (fun r w nz => ?_) (fun r w e0 => ?_) (fun r w e1' => ?_)
  · by_cases k0 : tkK (ρ.2.2 3) n (sk (ρ.2.2 3) n 0) = 0
    · rw [(w.1 k0).1]
    · exact absurd (by rw [(w.2.1 k0).1]) nz
  · have k0 : ¬ tkK (ρ.2.2 3) n (sk (ρ.2.2 3) n 0) = 0 := fun k0 => by
      rw [(w.1 k0).1] at e0
      exact absurd e0 (by decide)
    rw [if_neg k0] at hG
    obtain ⟨w1, w2, lx⟩ := w.2.1 k0
    obtain ⟨kd, st, en, hi, lo, es⟩ := w.2.2
    have w21 : r.2.2.1 = 0 ∧ r.2.2.2 = 0 := by rw [w2]; exact ⟨rfl, rfl⟩
    refine Tm_mono (Q := RxO b N (tbE 0 E).length n E vg x σ (n1' + r.2.2.1) (n2' + r.2.2.2)) ?_ (fun q z => RxO_s z)
    have ph3 := Ph_s (σ := σ2) (σ' := r.2.1) (by rw [es]; rfl)
    have rxf : RxF b N (tbE 0 E).length n σ r.2.1 := RxF_0 hs1.symm bg0 es cd h41
    have ry : RxY b N (tbE 0 E).length n σ (n1' + r.2.2.1) (n2' + r.2.2.2) r.2.1 := ⟨rxf, by omega, by omega⟩
    generalize n1' + r.2.2.1 = c1 at ry ⊢
    generalize n2' + r.2.2.2 = c2 at ry ⊢
    generalize hτ : r.2.1 = τ at *
    clear hs1
    have sf : ∀ j, ¬ (3702 ≤ j ∧ j ≤ 3704) → τ.1 j = σ2.1 j := fun j hj => by
      rw [es]
      show upd (upd (upd σ2.1 3702 kd) 3703 st) 3704 en j = _
      rw [upd_other (by omega), upd_other (by omega), upd_other (by omega)]
    have s2 : τ.2.2 = σ2.2.2 := by rw [es]; rfl
    have qs : QS (ρ.2.2 3) n b 41 al (tbE 0 E) 0 (sk (ρ.2.2 3) n 0) 0 0 0 N τ := by
      refine ⟨lx, ⟨?_, rxf.2.2.2.2.2.2.1⟩, ⟨by rw [sf _ (by decide)]; exact p7, Nat.zero_le _, rxf.2.2.2.2.2.2.2.1⟩, ⟨?_, tb.2.1, fun i hi => ?_⟩, ⟨by show τ.2.2.2.2.2.1.2.2.2.1 = _; rw [s2]; exact p1, by rw [sf _ (by decide)]; exact p2, by rw [sf _ (by decide)]; exact p3, by rw [sf _ (by decide)]; exact p9⟩, ⟨by rw [sf _ (by decide)]; exact p4, Nat.zero_le _⟩, ⟨?_, Nat.zero_le _⟩, ?_⟩
      · rw [sf _ (by omega), a1 _ (by omega), s1f _ (by omega)]; exact e1N
      · rw [sf _ (by omega), a1 _ (by omega), s1f _ (by omega)]; exact e11
      · obtain ⟨⟨y1, y2⟩, ⟨y3, y4⟩, y5, y6⟩ := rxf.2.2.2.2.1 i hi
        rw [y1, y2, y3, y4, y5, y6]
        exact tb.2.2 i hi
      · rw [s2, (a3 _ (by omega)).1]; exact s116
      · rw [sf _ (by omega), a1 _ (by omega)]; exact s119
    have ut' : UTb b nu c MD τ := fun i hi => by
      have nu40 := de.2.1.2.2.1
      obtain ⟨y1, y2, y3, y4⟩ := rxf.2.2.2.1.1 (i + 1) (by omega)
      rw [y1, y2, y3, y4]
      exact ut i hi
    have de4 : DE ((E.1, [], [], 41, false, decide (al = 1), E.2.2.2.2.2.2) : En) 41 vg nu 0 := ⟨⟨rfl, fun e => absurd e (by decide), fun _ => rfl⟩, ⟨de.2.1.1, de.2.1.2.1, de.2.1.2.2.1, by omega⟩, de.2.2.1, de.2.2.2.1, fun y hy => absurd hy List.not_mem_nil⟩
    have ev4 := EvX_P (E := ((E.1, [], [], 41, false, decide (al = 1), E.2.2.2.2.2.2) : En)) (al := al) (b := b) (σ := τ) de4 (show PgU (E.1, [], [], 41, false, decide (al = 1), E.2.2.2.2.2.2) vg nu N0 W c from pgu) ut' (by decide) (by omega) ⟨fun z => (by cases z), fun z => (by omega)⟩ (by
      show decide (al = 1) = true ↔ 1 ≤ al
      rw [decide_eq_true_iff]
      omega)
    rw [← tbe] at ev4
    have ev : EvX ((E.1, [], [], 42, false, decide (al = 1), E.2.2.2.2.2.2) : En) b 41 al (glD E vg) (VmD 0) (tbE 0 E) τ := ev4
    have el := de.2.1
    have bdx : BdX n 0 (sk (ρ.2.2 3) n 0) 0 0 0 N (tbE 0 E).length := ⟨hn, by omega, by omega, by omega, by omega⟩
    have gz : ∃ z, G (ρ.2.2 3) n f 0 (E.1, [], [], 42, false, decide (al = 1), E.2.2.2.2.2.2) 0 (sk (ρ.2.2 3) n 0) 0 0 0 0 0 bt = some z := by
      rcases gb_any hG with ⟨yf, z, _⟩ | ⟨t, z, _⟩
      · exact ⟨_, z⟩
      · exact ⟨_, z⟩
    obtain ⟨z, hz⟩ := gz
    have te : Tm (fun k => f_F2 k 400 1 0 (lI lZ 1 0) τ) (QPo b 41 (tbE 0 E).length N 0 z (fun r _ τ' => XR (ρ.2.2 3) n b 41 al (glD E vg) (VmD 0) (tbE 0 E) 0 0 0 N (sk (ρ.2.2 3) n 0) 0 r τ') τ 0 0) := px_all f 400 0 0 (Or.inl ⟨rfl, rfl⟩) _ 0 (sk (ρ.2.2 3) n 0) 0 bt z hz (glD E vg) (VmD 0) (tbE 0 E) 0 0 N τ (lI lZ 1 0) qs ev bdx rfl (by omega)
    rw [hz] at hG
    show Tm (fun k => oh (f_F2 k 400 1 0 (lI lZ 1 0) τ) (fun r4 => oh (f_X5_want k 0 (lI lZ 1 1) r4.2.1) (fun r5 => oh (f_X7_emit__P k 0 (lI (lI (lB lZ 0 b) 1 10) 2 0) r5.2.1) (fun r6 => some ((0, 1), r6.2.1, (0, 0))) (fun r6 => op (y_X5_noteFault k 0 lZ r6.2.1) (fun r8 => some ((0, 0), (uI (uI r8.2 (fP b 1) (nI N)) (fP b 11) (nI (tbE 0 E).length)), (0, 0))))) (fun r5 => op (y_X5_noteFault k 0 lZ r5.2.1) (fun r10 => some ((0, 0), (uI (uI r10.2 (fP b 1) (nI N)) (fP b 11) (nI (tbE 0 E).length)), (0, 0))))) (fun r4 => op (y_X5_noteFault k 0 lZ r4.2.1) (fun r12 => some ((0, 0), (uI (uI r12.2 (fP b 1) (nI N)) (fP b 11) (nI (tbE 0 E).length)), (0, 0))))) _
    cases z with
    | inl yf =>
      have ex : x = Sum.inl yf := (Option.some.inj hG).symm
      exact rx_call (z := Sum.inl _) ry (Nat.le_refl _) (Nat.le_refl _) te (Or.inl ⟨_, rfl, ex⟩)
    | inr t =>
      refine rx_call (z := Sum.inr t) ry (Nat.le_refl _) (Nat.le_refl _) te (Or.inr ⟨t, rfl, fun τ1 ret1 m1 m2 xr xk1 ry1 => ?_⟩)
      obtain ⟨cs, q2', cd2, sg, ln, lt, lv, _⟩ := xr
      have t1n : t.1 ≤ n := q2'.1.2.2.2.1
      have hG2 : (if tkK (ρ.2.2 3) n t.1 = 25 then some (Sum.inr t) else some (Sum.inl (2, t.1))) = some x := hG
      by_cases k25 : tkK (ρ.2.2 3) n t.1 = 25
      · rw [if_pos k25] at hG2
        have ex : x = Sum.inr t := (Option.some.inj hG2).symm
        refine rx_call (z := Sum.inr _) ry1 (Nat.le_refl _) (Nat.le_add_right _ _) (c_wantQ (kk := 25) (L := lI lZ 1 1) q2' (by decide) rfl (Or.inr ⟨k25, rfl⟩)) (Or.inr ⟨_, rfl, fun τ2 ret2 m3 m4 e2 xk2 ry2 => ?_⟩)
        have e2' : τ2 = τ1 := e2
        rw [e2'] at ry2 ⊢
        refine rx_call (z := Sum.inr ()) ry2 (Nat.le_refl _) (Nat.le_add_right _ _) (c_emitQ (oq := 10) (L := lI (lI (lB lZ 0 b) 1 10) 2 0) q2' rfl rfl (by omega)) (Or.inr ⟨_, rfl, fun τ4 ret4 m5 m6 r4 xk4 ry4 => ?_⟩)
        obtain ⟨q4, cd4⟩ := r4
        refine Tm_some ⟨rfl, ?_, ry4.1, q4.2.2.2.1.1, fun _ e => (by rw [ex] at e; cases e), fun t' e => ⟨⟨rfl, q4.2.2.2.2.1.2.2.2⟩, cs, q4.2.1, fun i hi => ?_, cd4, sg, by omega⟩⟩
        · have y1 := ry4.2.1
          have y2 := ry4.2.2
          show c1 + m1 + m3 + m5 + 0 + PhC τ4 ≤ PhC σ + 1 ∧ c2 + m2 + m4 + m6 + 0 + PhS τ4 ≤ PhS σ + 6
          omega
        · show cdr b τ4 (N + i) = _
          rw [(xk4.2.2.2.2.2.1 (N + i) (by omega)).1]
          exact cd2 i hi
      · rw [if_neg k25] at hG2
        have ex : x = Sum.inl (2, t.1) := (Option.some.inj hG2).symm
        exact rx_call (z := Sum.inl _) ry1 (Nat.le_refl _) (Nat.le_add_right _ _) (c_wantQ (kk := 25) (L := lI lZ 1 1) q2' (by decide) rfl (Or.inl ⟨k25, rfl⟩)) (Or.inl ⟨_, rfl, ex⟩)
  · have k0 : tkK (ρ.2.2 3) n (sk (ρ.2.2 3) n 0) = 0 := by
      by_cases k0 : tkK (ρ.2.2 3) n (sk (ρ.2.2 3) n 0) = 0
      · exact k0
      · rw [(w.2.1 k0).1] at e1'
        exact absurd e1' (by decide)
    rw [if_pos k0] at hG
    have ex : x = Sum.inl (1, sk (ρ.2.2 3) n 0) := (Option.some.inj hG).symm
    obtain ⟨w1, w2, w3⟩ := w.1 k0
    obtain ⟨kd, st, en, hi, lo, es⟩ := w.2.2
    have ph3 := Ph_s (σ := σ2) (σ' := r.2.1) (by rw [es]; rfl)
    have f6 : r.2.1.1 4006 = 0 := by
      rw [es]
      show upd (upd (upd σ2.1 3702 kd) 3703 st) 3704 en 4006 = _
      rw [upd_other (by decide), upd_other (by decide), upd_other (by decide)]
      exact p9
    have w21 : r.2.2.1 = 1 ∧ r.2.2.2 = 6 := by rw [w2]; exact ⟨rfl, rfl⟩
    exact Tm_mono (rx_no (a1 := n1' + r.2.2.1) (a2 := n2' + r.2.2.2) (RxF_0 hs1.symm bg0 es cd h41) (by omega) (by omega) ex (Or.inr ⟨rfl, f6, w3⟩)) (fun q z => RxO_s z)
end DZK
end JnS562
section JnS563
/-! The class: an exp that is asked for, typed; its own places alone. -/
section DZL
variable {σ s : CS} {b : Bool} {N N0 M W n sz V vg nu F : Nat} {E : En} {c c1 : Ct} {MD : Nat → Nat → Nat} {cs : List Int32} {C : Nat → Int32} {gl : List Gn} {pr : Nat → Nat} {D : Nat → Option (Nat × Nat × List Nat × Nat)}
/-- its begin -/
theorem un_v (h : PgT E vg nu N0 W c) (hN0 : N0 ≤ tcN c) : TI noP noP nu RK (mkc c (tcC c) (tcN c) (fun p => if p = tcN c then some (41, 0, [bsl], RK) else tcD c p)) ∧ PgU E vg nu N0 W (mkc c (tcC c) (tcN c) (fun p => if p = tcN c then some (41, 0, [bsl], RK) else tcD c p)) := by
  obtain ⟨t, hD, pg⟩ := h
  refine ⟨TI_tb (On := False) (y := some (41, 0, [bsl], RK)) t (fun _ _ => rfl) rfl (fun u => Or.inl (CtG_r noP u nu c)) (Nat.le_refl _) (Or.inl hD) (fun p => rfl) (fun p => ⟨fun z => z.elim, fun z => z.elim id (fun w => w.2)⟩) (fun z => z.elim) (Nat.le_refl _), PgU_k pg (Nat.le_refl _) (fun q y e => ?_) (fun q y e => ?_)⟩
  · show (if q = tcN c then some (41, 0, [bsl], RK) else tcD c q) = some y
    rw [if_neg (fun z => by rw [z, hD] at e; cases e)]
    exact e
  · by_cases z : q = tcN c
    · omega
    · have e' : (if q = tcN c then some (41, 0, [bsl], RK) else tcD c q) = some y := e
      rw [if_neg z] at e'
      exact pg.1 q y e'
/-- it is laid -/
theorem Un_v (h : PgT E vg nu N0 W c) (hn : nu ≤ 40) (hN0 : N0 ≤ tcN c) (sg : Sgm 41 0 (glD E vg) (VmD 0) 1 cs) (hl : tcN c + cs.length + 1 ≤ 36864) (hC1 : ∀ i, i < tcN c → C i = tcC c i) (hC2 : ∀ i, i < cs.length → C (tcN c + i) = cs.getD i 0) (hC3 : C (tcN c + cs.length) = em 10 0) : ∃ D, PgT E vg nu N0 W (mkc c C (tcN c + cs.length + 1) D) ∧ D (tcN c) = some (41, 0, [bsl], RK) ∧ (∀ q y, tcD c q = some y → D q = some y) ∧ ∀ q, q < tcN c → D q = tcD c q := by
  have rk : RK = 40000 := rfl
  have hD := h.2.1
  have t0 := h.1
  have F0 : tcF c 41 = 0 := h.2.2.2.1.2.2.2
  obtain ⟨t, pg⟩ := un_v h hN0
  generalize hc1 : mkc c (tcC c) (tcN c) (fun p => if p = tcN c then some (41, 0, [bsl], RK) else tcD c p) = c1 at t pg
  have eN : tcN c1 = tcN c := by rw [← hc1]
  have eD : ∀ q, tcD c1 q = if q = tcN c then some (41, 0, [bsl], RK) else tcD c q := fun q => by rw [← hc1]
  have eF : tcF c1 41 = 0 := by rw [← hc1]; exact F0
  have eM : ∀ C N D, mkc c1 C N D = mkc c C N D := fun C N D => by rw [← hc1]
  have eC : tcC c1 = tcC c := by rw [← hc1]
  clear hc1
  have d0 : tcD c1 (tcN c1) = some (41, 0, sh [] 0 [], RK) := by rw [eD, eN, if_pos rfl]; rfl
  obtain ⟨D, t1, e1, f1⟩ := sg.2 noP noP nu RK c1 0 [] 0 [] C t (fun z => z) d0 (fun e he => absurd he List.not_mem_nil) (CnC_P (F := 0) (v := 0) pg hn (Or.inr rfl) eF (by omega) (Nat.le_refl _)) (by omega) (Nat.le_refl _) (by omega) (by omega) (by rw [eN, eC]; exact hC1) (by rw [eN]; exact hC2)
  rw [eN] at t1 e1 f1
  have dd : ∀ q y, tcD c q = some y → D q = some y := fun q y e => by
    have lt : q < tcN c := by
      rcases Nat.lt_trichotomy q (tcN c) with z | z | z
      · exact z
      · rw [z, hD] at e; cases e
      · rw [t0.2.2.2.1 q z] at e; cases e
    rw [e1 q (by omega), eD, if_neg (by omega)]
    exact e
  have t2 := TI_la (op := 10) (C := C) t1 (by decide) (by show tcN c + cs.length + 1 ≤ 36864; omega) f1 (by decide) (by omega) (fun _ _ => rfl) hC3 (fun c' a => OKI_v (by decide) ⟨rfl, by omega⟩)
  refine ⟨fun q => if q = tcN c + cs.length + 1 then none else D q, ⟨?_, if_pos rfl, ?_⟩, ?_, fun q y e => ?_, fun q hq => ?_⟩
  · rw [← eM]
    exact t2
  · refine PgU_k h.2.2 (by omega) (fun q y e => ?_) (fun q y e => ?_)
    · have lt : q ≤ tcN c := by
        rcases Nat.lt_or_ge (tcN c) q with z | z
        · rw [t0.2.2.2.1 q z] at e; cases e
        · exact z
      show (if q = tcN c + cs.length + 1 then none else D q) = some y
      rw [if_neg (by omega)]
      exact dd q y e
    · by_cases z : q = tcN c + cs.length + 1
      · have e' : (if q = tcN c + cs.length + 1 then none else D q) = some y := e
        rw [if_pos z] at e'
        cases e'
      · have e' : (if q = tcN c + cs.length + 1 then none else D q) = some y := e
        rw [if_neg z] at e'
        rcases Nat.lt_or_ge q (tcN c) with w | w
        · rw [e1 q (by omega), eD, if_neg (by omega)] at e'
          exact h.2.2.1 q y e'
        · omega
  · show (if tcN c = tcN c + cs.length + 1 then none else D (tcN c)) = _
    rw [if_neg (by omega), e1 _ (Nat.le_refl _), eD, if_pos rfl]
  · have lt : q ≤ tcN c := by
      rcases Nat.lt_or_ge (tcN c) q with z | z
      · rw [t0.2.2.2.1 q z] at e; cases e
      · exact z
    show (if q = tcN c + cs.length + 1 then none else D q) = some y
    rw [if_neg (by omega)]
    exact dd q y e
  · show (if q = tcN c + cs.length + 1 then none else D q) = _
    rw [if_neg (by omega), e1 q (by omega), eD, if_neg (by omega)]
/-- of what lies from N on, what is of unit 41 -/
def rsD (N : Nat) (D : Nat → Option (Nat × Nat × List Nat × Nat)) (q : Nat) : Option (Nat × Nat × List Nat × Nat) := if q < N then D q else match D q with
  | none => none
  | some x => if x.1 = 41 ∨ x.1 = 141 then some x else none
theorem rsD_1 {q : Nat} (h : q < N) : rsD N D q = D q := if_pos h
theorem rsD_2 {q : Nat} {x : Nat × Nat × List Nat × Nat} (h : D q = some x) (hx : x.1 = 41 ∨ x.1 = 141) : rsD N D q = some x := by
  unfold rsD
  by_cases z : q < N
  · rw [if_pos z]; exact h
  · rw [if_neg z, h]
    exact if_pos hx
theorem rsD_3 {q : Nat} {x : Nat × Nat × List Nat × Nat} (hq : ¬ q < N) (h : rsD N D q = some x) : D q = some x ∧ (x.1 = 41 ∨ x.1 = 141) := by
  unfold rsD at h
  rw [if_neg hq] at h
  cases e : D q with
  | none => rw [e] at h; cases h
  | some y =>
    rw [e] at h
    have h' : (if y.1 = 41 ∨ y.1 = 141 then some y else none) = some x := h
    by_cases k : y.1 = 41 ∨ y.1 = 141
    · rw [if_pos k] at h'
      cases h'
      exact ⟨rfl, k⟩
    · rw [if_neg k] at h'; cases h'
/-- as ck_M, with the told funcs alone -/
theorem ck_M2 (ut : UTb b nu c MD σ) (r18 : σ.2.2.1 (pR18 b) 0 = nI vg) (vg60 : vg ≤ 60) (nu40 : nu ≤ 40) (h : PgT E vg nu 0 vg c) (hc : ∀ i, i < tcN c → cdr b σ i = tcC c i) (le : tcN c ≤ cdn b σ) (h41 : σ.2.2.1 (pR18 b) 41 = 0) {pc : Nat} {x : Nat × Nat × List Nat × Nat} (e' : tcD c pc = some x) : CkP (cdr b σ, cdn b σ, fun v => uN (σ.2.2.1 (pR13 b) v), fun v => uN (σ.2.2.1 (pR14 b) v), fun v => uN (σ.2.2.1 (pR18 b) v), fun v => tcK c v ∧ v ≤ nu, tcD c) pc := by
  obtain ⟨ti, dn, pgu⟩ := h
  have lt : pc < tcN c := by
    rcases Nat.lt_trichotomy pc (tcN c) with z | z | z
    · exact z
    · rw [z, dn] at e'; cases e'
    · rw [ti.2.2.2.1 pc z] at e'; cases e'
  rcases ti.2.2.2.2 pc _ e' lt with z | ⟨ln, Rp, l1, l2, l3, l4, ok⟩
  · exact z.elim
  have cg : CtG noP (x.1 % 100) nu c (cdr b σ, cdn b σ, fun v => if v = 41 then tcE c 41 else uN (σ.2.2.1 (pR13 b) v), fun v => if v = 41 then tcP c 41 else uN (σ.2.2.1 (pR14 b) v), fun v => uN (σ.2.2.1 (pR18 b) v), fun v => tcK c v ∧ v ≤ nu, tcD c) := by
    have f0 : uN (σ.2.2.1 (pR18 b) 0) = tcF c 0 := by rw [r18, u_n (by omega), pgu.2.1.1.2]
    refine ⟨le, fun v hv => ?_, fun v hv => ⟨fun z => z.1, fun z => ⟨z, ?_⟩⟩, ⟨Nat.le_of_eq f0.symm, fun _ => f0⟩, fun p x ex => ⟨fun _ => ex, fun o => o.elim⟩⟩
    · rcases hv with ⟨v1, v2⟩ | hv
      · obtain ⟨k1, k2, k3⟩ := ut_E ut pgu ti.1 v1 v2
        refine ⟨?_, ?_, k3⟩
        · show (if v = 41 then tcE c 41 else uN (σ.2.2.1 (pR13 b) v)) = _
          rw [if_neg (by omega)]; exact k1
        · show (if v = 41 then tcP c 41 else uN (σ.2.2.1 (pR14 b) v)) = _
          rw [if_neg (by omega)]; exact k2
      · subst hv
        refine ⟨(show (if (41 : Nat) = 41 then tcE c 41 else uN (σ.2.2.1 (pR13 b) 41)) = tcE c 41 from if_pos rfl), (show (if (41 : Nat) = 41 then tcP c 41 else uN (σ.2.2.1 (pR14 b) 41)) = tcP c 41 from if_pos rfl), ?_⟩
        show uN (σ.2.2.1 (pR18 b) 41) = tcF c 41
        rw [h41, pgu.2.1.2.2.2]; rfl
    · rcases hv with hv | hv
      · exact hv
      · rw [hv] at z
        exact absurd z pgu.2.1.2.2.1
  have shr : ShR 0 (cdr b σ, cdn b σ, fun v => if v = 41 then tcE c 41 else uN (σ.2.2.1 (pR13 b) v), fun v => if v = 41 then tcP c 41 else uN (σ.2.2.1 (pR14 b) v), fun v => uN (σ.2.2.1 (pR18 b) v), fun v => tcK c v ∧ v ≤ nu, tcD c) (cdr b σ, cdn b σ, fun v => uN (σ.2.2.1 (pR13 b) v), fun v => uN (σ.2.2.1 (pR14 b) v), fun v => uN (σ.2.2.1 (pR18 b) v), fun v => tcK c v ∧ v ≤ nu, tcD c) := ⟨fun p x ex => ⟨Nat.zero_le _, ex⟩, rfl, fun v hv => ⟨if_neg (by omega), if_neg (by omega)⟩, fun _ => rfl, fun _ => Iff.rfl, fun i => rfl⟩
  have ck : CkP (cdr b σ, cdn b σ, fun v => if v = 41 then tcE c 41 else uN (σ.2.2.1 (pR13 b) v), fun v => if v = 41 then tcP c 41 else uN (σ.2.2.1 (pR14 b) v), fun v => uN (σ.2.2.1 (pR18 b) v), fun v => tcK c v ∧ v ≤ nu, tcD c) (pc + 0) := ok _ cg (fun i i1 i2 => hc i (by omega)) (fun _ _ o _ => o.elim)
  have t1 := ti.1
  exact mvd_P shr (fun x ex => ex) (by omega) ck
/-- the machine's code while an exp is asked: c is that of the program, D with the exp -/
theorem ck_R (ck : CkA (cM c b σ)) (t0 : PgT E vg nu 0 vg c) (eN : tcN c = N) (ut : UTb b nu c MD σ) (r18 : σ.2.2.1 (pR18 b) 0 = nI vg) (vg60 : vg ≤ 60) (nu40 : nu ≤ 40) (t1 : PgT E vg nu 0 vg (mkc c C M D)) (hc : ∀ i, i < M → cdr b σ i = C i) (le : M ≤ cdn b σ) (h41 : σ.2.2.1 (pR18 b) 41 = 0) (h1 : ∀ q y, tcD c q = some y → D q = some y) (h2 : ∀ q, q < N → D q = tcD c q) : CkA (cM (mkc c C M (rsD N D)) b σ) ∧ (∀ p x, tcD c p = some x → rsD N D p = some x) ∧ ∀ p x, rsD N D p = some x → x.1 < 41 → tcD c p = some x := by
  have ltN : ∀ p x, tcD c p = some x → p < N := fun p x e => by
    rcases Nat.lt_trichotomy p N with z | z | z
    · exact z
    · rw [z, ← eN, t0.2.1] at e; cases e
    · rw [t0.1.2.2.2.1 p (by omega)] at e; cases e
  have up : ∀ p x, tcD c p = some x → rsD N D p = some x := fun p x e => by rw [rsD_1 (ltN p x e)]; exact h1 p x e
  have dn : ∀ p x, rsD N D p = some x → x.1 < 41 → tcD c p = some x := fun p x e hx => by
    by_cases z : p < N
    · rw [rsD_1 z, h2 p z] at e; exact e
    · have := (rsD_3 z e).2
      omega
  refine ⟨⟨ck.1, ck.2.1, fun pc => ?_⟩, up, dn⟩
  by_cases z : pc < N
  · have sh0 : ShR 0 (cM c b σ) (cM (mkc c C M (rsD N D)) b σ) := ⟨fun p x ex => ⟨Nat.zero_le _, up p x ex⟩, rfl, fun v hv => ⟨rfl, rfl⟩, fun _ => rfl, fun _ => Iff.rfl, fun i => rfl⟩
    have k : CkP (cM c b σ) (pc + 0) := ck.2.2 pc
    exact mvd_P (c2 := cM (mkc c C M (rsD N D)) b σ) sh0 (fun x ex => by
      have ex' : rsD N D pc = some x := ex
      rw [rsD_1 z, h2 pc z] at ex'
      exact ex') (by have := t0.1.1; omega) k
  · intro u d r rk e
    have e' : rsD N D pc = some (u, d, r, rk) := e
    obtain ⟨e1, e2⟩ := rsD_3 z e'
    have k := ck_M2 (c := mkc c C M D) (x := (u, d, r, rk)) (MD := MD) (fun i hi => ut i hi) r18 vg60 nu40 t1 hc le h41 e1
    have lt : pc < M := by
      rcases Nat.lt_trichotomy pc M with w | w | w
      · exact w
      · have y : D M = none := t1.2.1
        rw [w, y] at e1; cases e1
      · have y : D pc = none := t1.1.2.2.2.1 pc w
        rw [y] at e1; cases e1
    have M36 : M ≤ 36864 := t1.1.1
    refine rst_P (c1 := (cdr b σ, cdn b σ, fun v => uN (σ.2.2.1 (pR13 b) v), fun v => uN (σ.2.2.1 (pR14 b) v), fun v => uN (σ.2.2.1 (pR18 b) v), fun v => tcK c v ∧ v ≤ nu, D)) (c2 := cM (mkc c C M (rsD N D)) b σ) ⟨fun p x ex hx => rsD_2 ex hx, rfl, fun v kv => ⟨⟨rfl, rfl⟩, kv.1, fun x ex => ?_⟩, fun _ => rfl, trivial, fun _ => rfl⟩ (fun x ex => rsD_3 z ex) (by omega) k u d r rk e
    have v1 : 1 ≤ v := by
      rcases Nat.eq_zero_or_pos v with w | w
      · have := kv.1
        rw [w] at this
        exact absurd this t0.2.2.2.1.2.1
      · exact w
    have kv2 : v ≤ nu := kv.2
    obtain ⟨k1, _, _⟩ := ut_E ut t0.2.2 t0.1.1 v1 kv2
    obtain ⟨_, _, rk', _, _, a5⟩ := t0.2.2.2.2.1 (v - 1) (by omega)
    rw [show v - 1 + 1 = v by omega] at a5
    have lt2 := ltN _ _ a5
    show rsD N D (uN (σ.2.2.1 (pR13 b) v)) = some x
    have ex' : D (uN (σ.2.2.1 (pR13 b) v)) = some x := ex
    rw [k1] at ex' ⊢
    rw [rsD_1 lt2]
    exact ex'
end DZL
end JnS563
section JnS564
/-! The house behind an exp that was read. -/
section DZM
variable {σ s s1 : CS} {b : Bool} {N N0 M W n sz sz' V vg nu F j : Nat} {E : En} {c c' : Ct} {MD : Nat → Nat → Nat} {tb : List Ent} {gl : List Gn} {pr : Nat → Nat} {XE : XEt}
/-- the house's own numbers and rows -/
def VwZ (s1 s : CS) : Prop := (∀ j, ¬ (j = 3701 ∨ j = 7512 ∨ j = 7513 ∨ j = 7519) → s.1 j = s1.1 j) ∧ s.2.1 = s1.2.1 ∧ (∀ k, ¬ (k = 64 ∨ k = 65 ∨ k = 67) → s.2.2.1 k = s1.2.2.1 k) ∧ s.2.2.2 = s1.2.2.2
theorem vr_n (vr : VwZ s1 s) : sN s = sN s1 := by show s.2.2.2.2.1 = _; rw [vr.2.2.2]
theorem vr_tb (rx : RxF b N tb.length n σ s1) (vr : VwZ s1 s) (e11 : s1.1 (fP b 11) = nI tb.length) (h : TbR b tb σ) : TbR b tb s := by
  have fc11 := fP_c b 11
  have p13 := pR_13 b
  obtain ⟨v1, v2, v3, v4⟩ := vr
  refine ⟨(v1 _ (by omega)).trans e11, h.2.1, fun i hi => ?_⟩
  obtain ⟨⟨y1, y2⟩, ⟨y3, y4⟩, y5, y6⟩ := rx.2.2.2.2.1 i hi
  rw [v4, v3 (pR7 b) (by omega), v3 (pR8 b) (by omega), v3 (pR9 b) (by omega), v3 (pR10 b) (by omega), y1, y2, y3, y4, y5, y6]
  exact h.2.2 i hi
theorem vr_ut (rx : RxF b N M n σ s1) (vr : VwZ s1 s) (nu40 : nu ≤ 40) (h : UTb b nu c MD σ) : UTb b nu c MD s := fun i hi => by
  have p13 := pR_13 b
  obtain ⟨v1, v2, v3, v4⟩ := vr
  obtain ⟨y1, y2, y3, y4⟩ := rx.2.2.2.1.1 (i + 1) (by omega)
  rw [v3 (pR13 b) (by omega), v3 (pR14 b) (by omega), v3 (pR15 b) (by omega), v3 (pR18 b) (by omega), y1, y2, y3, y4]
  exact h i hi
theorem vr_18 (rx : RxF b N M n σ s1) (vr : VwZ s1 s) : s.2.2.1 (pR18 b) 0 = σ.2.2.1 (pR18 b) 0 := by
  have p13 := pR_13 b
  rw [vr.2.2.1 (pR18 b) (by omega)]
  exact (rx.2.2.2.1.1 0 (by decide)).2.2.2
theorem vr_cd (rx : RxF b N M n σ s1) (vr : VwZ s1 s) : (∀ i, cdr b s i = cdr b s1 i) ∧ cdn b s = cdn b s1 := by
  have p0 := pR0_c (sKd s1 b)
  have kd : sKd s = sKd s1 := by show s.2.2.2.2.2.1.2.2.2.2 = _; rw [vr.2.2.2]
  refine ⟨fun i => ?_, ?_⟩
  · show s.2.2.1 (pR0 (sKd s b)) i = s1.2.2.1 (pR0 (sKd s1 b)) i
    rw [kd, vr.2.2.1 _ (by omega)]
  · show sN s (pR0 (sKd s b)) = sN s1 (pR0 (sKd s1 b))
    rw [kd, vr_n vr]
theorem vr_x (rx : RxF b N M n σ s1) (vr : VwZ s1 s) : PFx σ s := by
  have fc1 := fP_c b 1
  have fc11 := fP_c b 11
  have fc19 := fP_c b 19
  have p13 := pR_13 b
  refine ⟨⟨fun j hj h4 => (vr.1 j (by omega)).trans (rx.1.1 j (by omega)), fun j hj => by rw [vr.2.1]; exact rx.1.2 j (by omega)⟩, fun k hk => ⟨(vr.2.2.1 k (by omega)).trans (rx.2.1.1 k (by omega)), by rw [vr_n vr]; exact rx.2.1.2.1 k (by omega)⟩, ?_⟩
  rw [vr.2.2.2]
  exact rx.2.2.1.2.2
theorem vr_by (rx : RxF b N M n σ s1) (vr : VwZ s1 s) (h : BY False σ) : BY False s := by
  have fc1 := fP_c b 1
  have fc11 := fP_c b 11
  have fc19 := fP_c b 19
  have p13 := pR_13 b
  unfold BY at h ⊢
  rw [vr_n vr, rx.2.1.2.1 22 (by omega), rx.2.1.2.1 66 (by omega), vr.2.2.1 13 (by omega), vr.2.2.1 22 (by omega), vr.2.2.1 66 (by omega), rx.2.1.1 13 (by omega), rx.2.1.1 22 (by omega), rx.2.1.1 66 (by omega), vr.1 1812 (by omega), vr.1 1813 (by omega), vr.1 1907 (by omega), rx.1.1 1812 (by omega), rx.1.1 1813 (by omega), rx.1.1 1907 (by omega)]
  exact h
theorem vr_rw (rx : RxF b N M n σ s1) (vr : VwZ s1 s) (h18 : σ.2.2.1 (pR18 b) 41 = 0) (h14 : σ.2.2.1 (pR14 b) 41 = 0) : s.2.2.1 (pR14 b) = σ.2.2.1 (pR14 b) ∧ s.2.2.1 (pR18 b) = σ.2.2.1 (pR18 b) := by
  have p13 := pR_13 b
  rw [vr.2.2.1 (pR14 b) (by omega), vr.2.2.1 (pR18 b) (by omega)]
  refine ⟨funext (fun i => ?_), funext (fun i => ?_)⟩
  · by_cases e : i = 41
    · rw [e, h14]; exact rx.2.2.2.1.2.1
    · exact (rx.2.2.2.1.1 i e).2.1
  · by_cases e : i = 41
    · rw [e, h18]; exact rx.2.2.2.1.2.2
    · exact (rx.2.2.2.1.1 i e).2.2.2
theorem vr_ct (rx : RxF b N M n σ s1) (vr : VwZ s1 s) (h18 : σ.2.2.1 (pR18 b) 41 = 0) (h14 : σ.2.2.1 (pR14 b) 41 = 0) (kk : tcK c' = tcK c) (dd : ∀ p x, tcD c p = some x → tcD c' p = some x) : CtX (cM c b σ) (cM c' b s) := by
  obtain ⟨e1, e2⟩ := vr_rw rx vr h18 h14
  refine ⟨?_, ?_, kk, dd⟩
  · show (fun u => uN (s.2.2.1 (pR14 b) u)) = fun u => uN (σ.2.2.1 (pR14 b) u)
    rw [e1]
  · show (fun u => uN (s.2.2.1 (pR18 b) u)) = fun u => uN (σ.2.2.1 (pR18 b) u)
    rw [e2]
theorem vr_0 (rx : RxF b N M n σ s1) (vr : VwZ s1 s) (h : ∀ d, σ.2.2.1 (pR18 d) 41 = 0 ∧ σ.2.2.1 (pR14 d) 41 = 0) (d : Bool) : s.2.2.1 (pR18 d) 41 = 0 ∧ s.2.2.1 (pR14 d) 41 = 0 := by
  by_cases e : d = b
  · rw [e]
    obtain ⟨e1, e2⟩ := vr_rw rx vr (h b).1 (h b).2
    rw [e1, e2]
    exact h b
  · have q1 : s.2.2.1 (pR18 d) = σ.2.2.1 (pR18 d) := (vr.2.2.1 _ (by cases d <;> decide)).trans (rx.2.1.1 _ (by cases d <;> cases b <;> first | exact absurd rfl e | decide))
    have q2 : s.2.2.1 (pR14 d) = σ.2.2.1 (pR14 d) := (vr.2.2.1 _ (by cases d <;> decide)).trans (rx.2.1.1 _ (by cases d <;> cases b <;> first | exact absurd rfl e | decide))
    rw [q1, q2]
    exact h d
theorem vr_ok (rx : RxF b N M n σ s1) (vr : VwZ s1 s) (e37 : s.1 3701 = 0) : tOK s := by
  obtain ⟨h1, h2, h3, h4, h5, _⟩ := rx.2.2.2.2.2.2.2.2
  unfold tOK
  rw [e37, vr_n vr, vr.2.2.1 38 (by omega)]
  have z0 : (0 : Int32).toInt = 0 := rfl
  exact ⟨by omega, by omega, by omega, h4, h5⟩
/-- the house stands behind it -/
theorem IC_cl (t3 : n ≤ 20 * j) (t4 : σ.2.2.2.1 39 = lxW) (p1 : sOt σ = !(sCur σ)) (p2 : ∀ b, σ.2.2.1 (pR18 b) 41 = 0 ∧ σ.2.2.1 (pR14 b) 41 = 0) (p4 : sN σ 42 = 64 ∨ sN σ 42 = 16384) (p6 : 2 * sz + 7 * (n + 20 * (512 - j)) ≤ 71682) (q1 : uN (σ.1 7517) ≤ sN σ 66) (q2 : uN (σ.1 7518) ≤ 2) (m1 : Hmx σ) (m2 : BY False σ) (k0 : ¬ σ.1 7510 = 0) (hX : XE = some (gl, pr)) (k4 : ¬ σ.1 7511 = 0 → sPr σ = some (sCur σ) ∧ Mst (cM c (sCur σ) σ) σ ∧ uN (σ.1 1903) ≤ 20000 * j) (hj : j < 512) (rx : RxF (sCur σ) N M n σ s1) (vr : VwZ s1 s) (e37 : s.1 3701 = 0) (h67 : ∀ g : Nat → Prop, (∀ i, i < 27 → Gv g (σ.2.2.1 67 i)) → ∀ i, i < 27 → Gv g (s.2.2.1 67 i)) (v8 : uN (s.1 7513) ≤ 8) (cd' : CdL (sCur σ) sz' s) (bd : 2 * sz' ≤ 2 * sz + 7 * n + 140) (kk : tcK c' = tcK c) (dd : ∀ p x, tcD c p = some x → tcD c' p = some x) (pg' : PgI gl pr (sCur σ) sz' (uN (s.1 7513)) c' s) : IC XE (j + 1) s := by
  have fc1 := fP_c (sCur σ) 1
  have fc11 := fP_c (sCur σ) 11
  have fc19 := fP_c (sCur σ) 19
  have p13 := pR_13 (sCur σ)
  have px := vr_x rx vr
  have by0 := vr_by rx vr m2
  have sc : sCur s = sCur σ := by show s.2.2.2.2.2.1.1 = _; rw [vr.2.2.2]; exact rx.2.2.1.1.1
  have so : sOt s = sOt σ := by show s.2.2.2.2.2.1.2.1 = _; rw [vr.2.2.2]; exact rx.2.2.1.1.2.1
  have sp : sPr s = sPr σ := by show s.2.2.2.2.2.1.2.2.1 = _; rw [vr.2.2.2]; exact rx.2.2.1.1.2.2
  have ff : ∀ i, ¬ (i = 404 ∨ (3701 ≤ i ∧ i ≤ 3704) ∨ (4003 ≤ i ∧ i ≤ 4020) ∨ (5000 ≤ i ∧ i ≤ 5019) ∨ (6800 ≤ i ∧ i ≤ 6819) ∨ i = 7512 ∨ i = 7513 ∨ i = 7519) → s.1 i = σ.1 i := fun i hi => (vr.1 i (by omega)).trans (rx.1.1 i (by omega))
  have nn := vr_n vr
  have e10 : s.1 7510 = σ.1 7510 := ff 7510 (by decide)
  have e11 : s.1 7511 = σ.1 7511 := ff 7511 (by decide)
  have hm : Hmx s ∧ (¬ s.1 7511 = 0 → sPr s = some (sCur s) ∧ Mst (cM c' (sCur s) s) s ∧ uN (s.1 1903) ≤ 20000 * (j + 1)) := by
    by_cases c11 : σ.1 7511 = 0
    · obtain ⟨g, l, t, K4, hb⟩ := m1
      exact ⟨⟨g, l, t, K4, Hmb_xx px (h67 g (fun i hi => (hb.2.2.2.1 i hi).2.1 rfl)) hb⟩, fun z => absurd (e11.trans c11) z⟩
    · obtain ⟨y1, y2, y3⟩ := k4 c11
      obtain ⟨g, l, t, mg⟩ := Mst_G y2
      have mg2 := MsG_xx (vr_ct rx vr (p2 _).1 (p2 _).2 kk dd) px (ct_M (c := c') (sp.trans y1)) by0 (h67 g (MsG_v mg).2) mg
      have ms2 := Mst_of mg2
      have e9 : s.1 1903 = σ.1 1903 := ff 1903 (by decide)
      exact ⟨Hmx_of ms2, fun _ => ⟨by rw [sc]; exact sp.trans y1, by rw [sc]; exact ms2, by rw [e9]; omega⟩⟩
  have lx : s.2.2.2.1 39 = lxW := by rw [vr.2.2.2, rx.2.1.2.2 39 (by omega)]; exact t4
  refine ⟨0, sz', ⟨vr_ok rx vr e37, e37, Nat.zero_le _, lx⟩, ⟨by rw [sc, so]; exact p1, fun d => vr_0 rx vr p2 d, by rw [nn]; exact rx.2.2.2.2.2.2.2.1, by rw [nn, rx.2.1.2.1 42 (by omega)]; exact p4, by rw [sc]; exact cd', by omega⟩, ⟨by rw [ff 7517 (by decide), nn, rx.2.1.2.1 66 (by omega)]; exact q1, by rw [ff 7518 (by decide)]; exact q2, v8⟩, ⟨hm.1, by0⟩, Or.inr ⟨by rw [e10]; exact k0, gl, pr, c', hX, by rw [sc]; exact pg', hm.2⟩⟩
end DZM
end JnS564
