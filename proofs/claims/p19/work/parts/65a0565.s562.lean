section JnS562
/-! The class: an exp that is asked for is read. -/
section DZK
variable {σ σ1 σ2 σ3 s s' τ τ' : CS} {ρ : MS} {b : Bool} {N N0 M W n nc sz mk a1 a2 vg nu al f : Nat} {E : En} {c : Ct} {MD : Nat → Nat → Nat} {bt : BT} {L : LV} {β : Type} {x : Fl RT}
/-- behind it: refused, or its code lies at N -/
def RxO (b : Bool) (N M n : Nat) (E : En) (vg : Nat) (x : Fl RT) (σ : CS) (a1 a2 : Nat) (r : RS) : Prop := r.1.1 = 0 ∧ (a1 + r.2.2.1 + PhC r.2.1 ≤ PhC σ + 1 ∧ a2 + r.2.2.2 + PhS r.2.1 ≤ PhS σ + 6) ∧ RxF b N M n σ r.2.1 ∧ r.2.1.1 (fP b 11) = nI M ∧ (∀ y, x = Sum.inl y → (r.1.2 = 0 ∧ r.2.1.1 (fP b 1) = nI N) ∧ r.2.1.1 4006 = nI y.1 ∧ r.2.1.1 4007 = nI y.2) ∧ ∀ t, x = Sum.inr t → (r.1.2 = 1 ∧ r.2.1.1 4006 = 0) ∧ ∃ cs : List Int32, CdL b (N + cs.length + 1) r.2.1 ∧ (∀ i, i < cs.length → cdr b r.2.1 (N + i) = cs.getD i 0) ∧ cdr b r.2.1 (N + cs.length) = em 10 0 ∧ Sgm 41 0 (glD E vg) (VmD 0) 1 cs ∧ 2 * cs.length ≤ 3 * n + 1
def RxY (b : Bool) (N M n : Nat) (σ : CS) (a1 a2 : Nat) (τ : CS) : Prop := RxF b N M n σ τ ∧ a1 + PhC τ ≤ PhC σ ∧ a2 + PhS τ ≤ PhS σ
theorem RxO_s {n1 n2 : Nat} {r : RS} (h : RxO b N M n E vg x σ (a1 + n1) (a2 + n2) r) : RxO b N M n E vg x σ a1 a2 (r.1, r.2.1, (n1 + r.2.2.1, n2 + r.2.2.2)) := by
  obtain ⟨h1, h2, h3⟩ := h
  refine ⟨h1, ?_, h3⟩
  show a1 + (n1 + r.2.2.1) + PhC r.2.1 ≤ PhC σ + 1 ∧ a2 + (n2 + r.2.2.2) + PhS r.2.1 ≤ PhS σ + 6
  omega
/-- what was thrown is caught: all is set back -/
theorem rx_no {ye : Nat × Nat} (h : RxF b N M n σ τ) (c1 : a1 + PhC τ ≤ PhC σ + 1) (c2 : a2 + PhS τ ≤ PhS σ + 6) (hx : x = Sum.inl ye) (hf : FltC ye τ) : Tm (fun k => op (y_X5_noteFault k 0 lZ τ) (fun r2 => some ((0, 0), uI (uI r2.2 (fP b 1) (nI N)) (fP b 11) (nI M), (0, 0)))) (RxO b N M n E vg x σ a1 a2) := by
  have fn := fP_ns b
  have f9 := fP_19 b
  refine Tm_op c_note (fun r2 w2 => Tm_some ?_)
  obtain ⟨w3, w4, w5⟩ := w2
  obtain ⟨w6, w7⟩ := w5 ye hf
  have ph := Ph_s (σ := τ) (σ' := uI (uI r2.2 (fP b 1) (nI N)) (fP b 11) (nI M)) (by show r2.2.2.2.2.2.1 = _; rw [w4])
  refine ⟨rfl, ?_, RxF_u h (fun j hj => ?_) w4, uI_s, fun y e => ?_, fun t e => by rw [hx] at e; cases e⟩
  · show a1 + 0 + PhC (uI (uI r2.2 (fP b 1) (nI N)) (fP b 11) (nI M)) ≤ PhC σ + 1 ∧ a2 + 0 + PhS (uI (uI r2.2 (fP b 1) (nI N)) (fP b 11) (nI M)) ≤ PhS σ + 6
    omega
  · show (uI (uI r2.2 (fP b 1) (nI N)) (fP b 11) (nI M)).1 j = τ.1 j
    rw [uI_o (by omega), uI_o (by omega)]
    exact w3 j (by omega)
  · rw [hx] at e
    cases e
    refine ⟨⟨rfl, ?_⟩, ?_, ?_⟩
    · show (uI (uI r2.2 (fP b 1) (nI N)) (fP b 11) (nI M)).1 (fP b 1) = nI N
      rw [uI_o (by omega), uI_s]
    · show (uI (uI r2.2 (fP b 1) (nI N)) (fP b 11) (nI M)).1 4006 = _
      rw [uI_o (by omega), uI_o (by omega)]
      exact w6
    · show (uI (uI r2.2 (fP b 1) (nI N)) (fP b 11) (nI M)).1 4007 = _
      rw [uI_o (by omega), uI_o (by omega)]
      exact w7
/-- a call within try -/
theorem rx_call {z : Fl β} {R : β → Int32 → CS → Prop} {gg : Nat → Option RS} {ff : Nat → RS → Option RS} (h : RxY b N M n σ a1 a2 τ) (hM : M ≤ nc) (hN : N ≤ sz) (t : Tm gg (QPo b 41 nc sz mk z R τ 0 0)) (hx : (∃ ye, z = Sum.inl ye ∧ x = Sum.inl ye) ∨ ∃ s, z = Sum.inr s ∧ ∀ (τ' : CS) (ret : Int32) (n1 n2 : Nat), R s ret τ' → XK b 41 nc sz mk τ τ' → RxY b N M n σ (a1 + n1) (a2 + n2) τ' → Tm (fun k => ff k ((0, ret), τ', (n1, n2))) (RxO b N M n E vg x σ (a1 + n1) (a2 + n2))) : Tm (fun k => oh (gg k) (ff k) (fun r => op (y_X5_noteFault k 0 lZ r.2.1) (fun r2 => some ((0, 0), uI (uI r2.2 (fP b 1) (nI N)) (fP b 11) (nI M), (0, 0))))) (RxO b N M n E vg x σ a1 a2) := by
  obtain ⟨h1, h2, h3⟩ := h
  refine Tm_oh (g := fun k r => op (y_X5_noteFault k 0 lZ r.2.1) (fun r2 => some ((0, 0), uI (uI r2.2 (fP b 1) (nI N)) (fP b 11) (nI M), (0, 0)))) t (fun r w nz => ?_) (fun r w e0 => ?_) (fun r w e1 => ?_)
  · cases z with
    | inl yf => exact (w.2.1 _ rfl).1
    | inr s => exact absurd (w.1 s rfl).1 nz
  · rcases hx with ⟨y0, e1, e2⟩ | ⟨s, e1, cont⟩
    · exact absurd (w.2.1 y0 e1).1 (by rw [e0]; decide)
    · have y := w.2.2.1 e0
      have k := cont r.2.1 r.1.2 r.2.2.1 r.2.2.2 (w.1 s e1).2 w.2.2.2.2 ⟨RxF_x h1 w.2.2.2.2 hM hN, by omega, by omega⟩
      have er : ((0, r.1.2), r.2.1, (r.2.2.1, r.2.2.2)) = r := by
        rw [← e0]
      rw [er] at k
      exact Tm_mono k (fun q z => RxO_s z)
  · rcases hx with ⟨y0, e2, e3⟩ | ⟨s, e2, _⟩
    · have y := w.2.2.2.1 (by rw [e1]; decide)
      exact Tm_mono (rx_no (a1 := a1 + r.2.2.1) (a2 := a2 + r.2.2.2) (RxF_x h1 w.2.2.2.2 hM hN) (by omega) (by omega) e3 (w.2.1 y0 e2).2) (fun q z => RxO_s z)
    · exact absurd (w.1 s e2).1 (by rw [e1]; decide)
theorem c_readExp (hok : tOK σ) (hl : σ.1 3701 = nI n) (hn : n ≤ 10240) (hw : σ.2.2.2.1 39 = lxW) (ht : tRel σ ρ) (cd : CdL b N σ) (h41 : sN σ 41 ≤ 21504) (tb : TbR b (tbE 0 E) σ) (de : DE E 0 vg nu vg) (pgu : PgU E vg nu N0 W c) (ut : UTb b nu c MD σ) (bd : 2 * N + 3 * n + 102 ≤ 73728) (hL : L.2.2.1 1 = b) (hA : L.1 2 = nI al) (hal : al ≤ 1) (hG : gX (ρ.2.2 3) n f (E.1, [], [], 42, false, decide (al = 1), E.2.2.2.2.2.2) bt = some x) : Tm (fun k => f_X5_readExp__P k 0 L σ) (RxO b N (tbE 0 E).length n E vg x σ 0 0) := by
  have fn := fP_ns b
  have f9 := fP_19 b
  have p13 := pR_13 b
  have hsk : sk (ρ.2.2 3) n 0 ≤ n := skE_le (ρ.2.2 3) n (n + 1) 0 (Nat.zero_le _)
  have nl : E.2.1 = [] := (de.1.2.1 rfl).1
  have e1N : σ.1 (fP b 1) = nI N := cd.1
  have e11 : σ.1 (fP b 11) = nI (tbE 0 E).length := tb.1
  have tbl : (tbE 0 E).length = E.1.length := by rw [tbE_l, nl]; rfl
  have tbe : tbE 0 E = tbE 41 (E.1, [], [], 41, false, decide (al = 1), E.2.2.2.2.2.2) := by
    unfold tbE
    rw [nl]
    rfl
  refine Tm_suc (fun k => by rw [f_X5_readExp__P]) ?_
  rw [hL, e1N, e11, hA]
  refine Tm_op (c_openUnit (L := lI (lB lZ 0 b) 1 41) (u := 41) (b := b) (by decide) rfl rfl) (fun r1 e1 => ?_)
  rw [e1]
  generalize hs1 : opU b 41 (σ.1 (fP b 1)) σ = σ1
  have s1f : ∀ j, ¬ j = fP b 19 → σ1.1 j = σ.1 j := fun j hj => by rw [← hs1]; exact opU_f hj
  have s119 : σ1.1 (fP b 19) = 0 := by rw [← hs1]; exact opU_19
  have s116 : σ1.2.2.1 (pR16 b) 41 = 0 := by rw [← hs1, opU_16, upd_same]
  have s1k : ∀ k, ¬ (k = pR13 b ∨ k = pR14 b ∨ k = pR15 b ∨ k = pR16 b ∨ k = pR17 b ∨ k = pR18 b) → σ1.2.2.1 k = σ.2.2.1 k := fun k hk => by rw [← hs1]; exact opU_k hk
  have s12 : σ1.2.2.2 = σ.2.2.2 := by rw [← hs1]; exact opU_2.2
  have n1 : sN σ1 = sN σ := by show σ1.2.2.2.2.1 = _; rw [s12]
  have hok1 : tOK σ1 := by
    unfold tOK at hok ⊢
    rw [s1f 3701 (by omega), n1, s1k 38 (by omega)]
    exact hok
  have hl1 : σ1.1 3701 = nI n := (s1f 3701 (by omega)).trans hl
  have ht1 : tRel σ1 ρ := tRel_s ht (s1f 3701 (by omega)) (s1k 38 (by omega))
  have ph1 := Ph_s (σ := σ) (σ' := σ1) n1
  refine Tm_oxc (c_begin5 hok1 hl1 (by omega) ht1 (L := lI (lI (lB lZ 1 b) 2 41) 3 (nI al)) rfl) (fun r h => by rw [h.1]) (fun r h => ?_)
  obtain ⟨⟨q1, q2⟩, σ2, ⟨n1', n2'⟩⟩ := r
  obtain ⟨-, co, bg, sm, e4, ⟨p1, p2, p3⟩, ⟨p4, p5, p6, p7, p8, p9⟩⟩ := h
  have bg0 := bg
  obtain ⟨⟨a1, a2⟩, ⟨a3, a4⟩, ⟨⟨a5, a6, a7, a8⟩, a9⟩, a10⟩ := bg
  have co1 : n1' + PhC σ2 ≤ PhC σ1 := co.1
  have co2 : n2' + PhS σ2 ≤ PhS σ1 := co.2
  have adv := c_advP (L := lZ) a10 sm (by rw [a4, s12]; exact hw) e4 (Nat.zero_le n)
  unfold gX at hG
  refine Tm_mono (Q := RxO b N (tbE 0 E).length n E vg x σ n1' n2') ?_ (fun q z => RxO_s (a1 := 0) (a2 := 0) (n1 := n1') (n2 := n2') (by rw [Nat.zero_add, Nat.zero_add]; exact z))
  refine Tm_oh (g := fun k r => op (y_X5_noteFault k 0 lZ r.2.1) (fun r2 => some ((0, 0), uI (uI r2.2 (fP b 1) (nI N)) (fP b 11) (nI (tbE 0 E).length), (0, 0)))) adv (fun r w nz => ?_) (fun r w e0 => ?_) (fun r w e1' => ?_)
  · by_cases k0 : tkK (ρ.2.2 3) n (sk (ρ.2.2 3) n 0) = 0
    · rw [(w.1 k0).1]
    · exact absurd (by rw [(w.2.1 k0).1]) nz
  · have k0 : ¬ tkK (ρ.2.2 3) n (sk (ρ.2.2 3) n 0) = 0 := fun k0 => by
      rw [(w.1 k0).1] at e0
      exact absurd e0 (by decide)
    rw [if_neg k0] at hG
    obtain ⟨w1, w2, lx⟩ := w.2.1 k0
    obtain ⟨kd, st, en, hi, lo, es⟩ := w.2.2
    have w21 : r.2.2.1 = 0 ∧ r.2.2.2 = 0 := by rw [w2]; exact ⟨rfl, rfl⟩
    refine Tm_mono (Q := RxO b N (tbE 0 E).length n E vg x σ (n1' + r.2.2.1) (n2' + r.2.2.2)) ?_ (fun q z => RxO_s z)
    have ph3 := Ph_s (σ := σ2) (σ' := r.2.1) (by rw [es]; rfl)
    have rxf : RxF b N (tbE 0 E).length n σ r.2.1 := RxF_0 hs1.symm bg0 es cd h41
    have ry : RxY b N (tbE 0 E).length n σ (n1' + r.2.2.1) (n2' + r.2.2.2) r.2.1 := ⟨rxf, by omega, by omega⟩
    generalize n1' + r.2.2.1 = c1 at ry ⊢
    generalize n2' + r.2.2.2 = c2 at ry ⊢
    generalize hτ : r.2.1 = τ at *
    clear hs1
    have sf : ∀ j, ¬ (3702 ≤ j ∧ j ≤ 3704) → τ.1 j = σ2.1 j := fun j hj => by
      rw [es]
      show upd (upd (upd σ2.1 3702 kd) 3703 st) 3704 en j = _
      rw [upd_other (by omega), upd_other (by omega), upd_other (by omega)]
    have s2 : τ.2.2 = σ2.2.2 := by rw [es]; rfl
    have qs : QS (ρ.2.2 3) n b 41 al (tbE 0 E) 0 (sk (ρ.2.2 3) n 0) 0 0 0 N τ := by
      refine ⟨lx, ⟨?_, rxf.2.2.2.2.2.2.1⟩, ⟨by rw [sf _ (by decide)]; exact p7, Nat.zero_le _, rxf.2.2.2.2.2.2.2.1⟩, ⟨?_, tb.2.1, fun i hi => ?_⟩, ⟨by show τ.2.2.2.2.2.1.2.2.2.1 = _; rw [s2]; exact p1, by rw [sf _ (by decide)]; exact p2, by rw [sf _ (by decide)]; exact p3, by rw [sf _ (by decide)]; exact p9⟩, ⟨by rw [sf _ (by decide)]; exact p4, Nat.zero_le _⟩, ⟨?_, Nat.zero_le _⟩, ?_⟩
      · rw [sf _ (by omega), a1 _ (by omega), s1f _ (by omega)]; exact e1N
      · rw [sf _ (by omega), a1 _ (by omega), s1f _ (by omega)]; exact e11
      · obtain ⟨⟨y1, y2⟩, ⟨y3, y4⟩, y5, y6⟩ := rxf.2.2.2.2.1 i hi
        rw [y1, y2, y3, y4, y5, y6]
        exact tb.2.2 i hi
      · rw [s2, (a3 _ (by omega)).1]; exact s116
      · rw [sf _ (by omega), a1 _ (by omega)]; exact s119
    have ut' : UTb b nu c MD τ := fun i hi => by
      have nu40 := de.2.1.2.2.1
      obtain ⟨y1, y2, y3, y4⟩ := rxf.2.2.2.1.1 (i + 1) (by omega)
      rw [y1, y2, y3, y4]
      exact ut i hi
    have de4 : DE ((E.1, [], [], 41, false, decide (al = 1), E.2.2.2.2.2.2) : En) 41 vg nu 0 := ⟨⟨rfl, fun e => absurd e (by decide), fun _ => rfl⟩, ⟨de.2.1.1, de.2.1.2.1, de.2.1.2.2.1, by omega⟩, de.2.2.1, de.2.2.2.1, fun y hy => absurd hy List.not_mem_nil⟩
    have ev4 := EvX_P (E := ((E.1, [], [], 41, false, decide (al = 1), E.2.2.2.2.2.2) : En)) (al := al) (b := b) (σ := τ) de4 (show PgU (E.1, [], [], 41, false, decide (al = 1), E.2.2.2.2.2.2) vg nu N0 W c from pgu) ut' (by decide) (by omega) ⟨fun z => (by cases z), fun z => (by omega)⟩ (by
      show decide (al = 1) = true ↔ 1 ≤ al
      rw [decide_eq_true_iff]
      omega)
    rw [← tbe] at ev4
    have ev : EvX ((E.1, [], [], 42, false, decide (al = 1), E.2.2.2.2.2.2) : En) b 41 al (glD E vg) (VmD 0) (tbE 0 E) τ := ev4
    have el := de.2.1
    have bdx : BdX n 0 (sk (ρ.2.2 3) n 0) 0 0 0 N (tbE 0 E).length := ⟨hn, by omega, by omega, by omega, by omega⟩
    have gz : ∃ z, G (ρ.2.2 3) n f 0 (E.1, [], [], 42, false, decide (al = 1), E.2.2.2.2.2.2) 0 (sk (ρ.2.2 3) n 0) 0 0 0 0 0 bt = some z := by
      rcases gb_any hG with ⟨yf, z, _⟩ | ⟨t, z, _⟩
      · exact ⟨_, z⟩
      · exact ⟨_, z⟩
    obtain ⟨z, hz⟩ := gz
    have te : Tm (fun k => f_F2 k 400 1 0 (lI lZ 1 0) τ) (QPo b 41 (tbE 0 E).length N 0 z (fun r _ τ' => XR (ρ.2.2 3) n b 41 al (glD E vg) (VmD 0) (tbE 0 E) 0 0 0 N (sk (ρ.2.2 3) n 0) 0 r τ') τ 0 0) := px_all f 400 0 0 (Or.inl ⟨rfl, rfl⟩) _ 0 (sk (ρ.2.2 3) n 0) 0 bt z hz (glD E vg) (VmD 0) (tbE 0 E) 0 0 N τ (lI lZ 1 0) qs ev bdx rfl (by omega)
    rw [hz] at hG
    show Tm (fun k => oh (f_F2 k 400 1 0 (lI lZ 1 0) τ) (fun r4 => oh (f_X5_want k 0 (lI lZ 1 1) r4.2.1) (fun r5 => oh (f_X7_emit__P k 0 (lI (lI (lB lZ 0 b) 1 10) 2 0) r5.2.1) (fun r6 => some ((0, 1), r6.2.1, (0, 0))) (fun r6 => op (y_X5_noteFault k 0 lZ r6.2.1) (fun r8 => some ((0, 0), (uI (uI r8.2 (fP b 1) (nI N)) (fP b 11) (nI (tbE 0 E).length)), (0, 0))))) (fun r5 => op (y_X5_noteFault k 0 lZ r5.2.1) (fun r10 => some ((0, 0), (uI (uI r10.2 (fP b 1) (nI N)) (fP b 11) (nI (tbE 0 E).length)), (0, 0))))) (fun r4 => op (y_X5_noteFault k 0 lZ r4.2.1) (fun r12 => some ((0, 0), (uI (uI r12.2 (fP b 1) (nI N)) (fP b 11) (nI (tbE 0 E).length)), (0, 0))))) _
    cases z with
    | inl yf =>
      have ex : x = Sum.inl yf := (Option.some.inj hG).symm
      exact rx_call (z := Sum.inl _) ry (Nat.le_refl _) (Nat.le_refl _) te (Or.inl ⟨_, rfl, ex⟩)
    | inr t =>
      refine rx_call (z := Sum.inr t) ry (Nat.le_refl _) (Nat.le_refl _) te (Or.inr ⟨t, rfl, fun τ1 ret1 m1 m2 xr xk1 ry1 => ?_⟩)
      obtain ⟨cs, q2', cd2, sg, ln, lt, lv, _⟩ := xr
      have t1n : t.1 ≤ n := q2'.1.2.2.2.1
      have hG2 : (if tkK (ρ.2.2 3) n t.1 = 25 then some (Sum.inr t) else some (Sum.inl (2, t.1))) = some x := hG
      by_cases k25 : tkK (ρ.2.2 3) n t.1 = 25
      · rw [if_pos k25] at hG2
        have ex : x = Sum.inr t := (Option.some.inj hG2).symm
        refine rx_call (z := Sum.inr _) ry1 (Nat.le_refl _) (Nat.le_add_right _ _) (c_wantQ (kk := 25) (L := lI lZ 1 1) q2' (by decide) rfl (Or.inr ⟨k25, rfl⟩)) (Or.inr ⟨_, rfl, fun τ2 ret2 m3 m4 e2 xk2 ry2 => ?_⟩)
        have e2' : τ2 = τ1 := e2
        rw [e2'] at ry2 ⊢
        refine rx_call (z := Sum.inr ()) ry2 (Nat.le_refl _) (Nat.le_add_right _ _) (c_emitQ (oq := 10) (L := lI (lI (lB lZ 0 b) 1 10) 2 0) q2' rfl rfl (by omega)) (Or.inr ⟨_, rfl, fun τ4 ret4 m5 m6 r4 xk4 ry4 => ?_⟩)
        obtain ⟨q4, cd4⟩ := r4
        refine Tm_some ⟨rfl, ?_, ry4.1, q4.2.2.2.1.1, fun _ e => (by rw [ex] at e; cases e), fun t' e => ⟨⟨rfl, q4.2.2.2.2.1.2.2.2⟩, cs, q4.2.1, fun i hi => ?_, cd4, sg, by omega⟩⟩
        · have y1 := ry4.2.1
          have y2 := ry4.2.2
          show c1 + m1 + m3 + m5 + 0 + PhC τ4 ≤ PhC σ + 1 ∧ c2 + m2 + m4 + m6 + 0 + PhS τ4 ≤ PhS σ + 6
          omega
        · show cdr b τ4 (N + i) = _
          rw [(xk4.2.2.2.2.2.1 (N + i) (by omega)).1]
          exact cd2 i hi
      · rw [if_neg k25] at hG2
        have ex : x = Sum.inl (2, t.1) := (Option.some.inj hG2).symm
        exact rx_call (z := Sum.inl _) ry1 (Nat.le_refl _) (Nat.le_add_right _ _) (c_wantQ (kk := 25) (L := lI lZ 1 1) q2' (by decide) rfl (Or.inl ⟨k25, rfl⟩)) (Or.inl ⟨_, rfl, ex⟩)
  · have k0 : tkK (ρ.2.2 3) n (sk (ρ.2.2 3) n 0) = 0 := by
      by_cases k0 : tkK (ρ.2.2 3) n (sk (ρ.2.2 3) n 0) = 0
      · exact k0
      · rw [(w.2.1 k0).1] at e1'
        exact absurd e1' (by decide)
    rw [if_pos k0] at hG
    have ex : x = Sum.inl (1, sk (ρ.2.2 3) n 0) := (Option.some.inj hG).symm
    obtain ⟨w1, w2, w3⟩ := w.1 k0
    obtain ⟨kd, st, en, hi, lo, es⟩ := w.2.2
    have ph3 := Ph_s (σ := σ2) (σ' := r.2.1) (by rw [es]; rfl)
    have f6 : r.2.1.1 4006 = 0 := by
      rw [es]
      show upd (upd (upd σ2.1 3702 kd) 3703 st) 3704 en 4006 = _
      rw [upd_other (by decide), upd_other (by decide), upd_other (by decide)]
      exact p9
    have w21 : r.2.2.1 = 1 ∧ r.2.2.2 = 6 := by rw [w2]; exact ⟨rfl, rfl⟩
    exact Tm_mono (rx_no (a1 := n1' + r.2.2.1) (a2 := n2' + r.2.2.2) (RxF_0 hs1.symm bg0 es cd h41) (by omega) (by omega) ex (Or.inr ⟨rfl, f6, w3⟩)) (fun q z => RxO_s z)
end DZK
end JnS562
section JnS563
/-! The class: an exp that is asked for, typed; its own places alone. -/
section DZL
variable {σ s : CS} {b : Bool} {N N0 M W n sz V vg nu F : Nat} {E : En} {c c1 : Ct} {MD : Nat → Nat → Nat} {cs : List Int32} {C : Nat → Int32} {gl : List Gn} {pr : Nat → Nat} {D : Nat → Option (Nat × Nat × List Nat × Nat)}
/-- its begin -/
theorem un_v (h : PgT E vg nu N0 W c) (hN0 : N0 ≤ tcN c) : TI noP noP nu RK (mkc c (tcC c) (tcN c) (fun p => if p = tcN c then some (41, 0, [bsl], RK) else tcD c p)) ∧ PgU E vg nu N0 W (mkc c (tcC c) (tcN c) (fun p => if p = tcN c then some (41, 0, [bsl], RK) else tcD c p)) := by
  obtain ⟨t, hD, pg⟩ := h
  refine ⟨TI_tb (On := False) (y := some (41, 0, [bsl], RK)) t (fun _ _ => rfl) rfl (fun u => Or.inl (CtG_r noP u nu c)) (Nat.le_refl _) (Or.inl hD) (fun p => rfl) (fun p => ⟨fun z => z.elim, fun z => z.elim id (fun w => w.2)⟩) (fun z => z.elim) (Nat.le_refl _), PgU_k pg (Nat.le_refl _) (fun q y e => ?_) (fun q y e => ?_)⟩
  · show (if q = tcN c then some (41, 0, [bsl], RK) else tcD c q) = some y
    rw [if_neg (fun z => by rw [z, hD] at e; cases e)]
    exact e
  · by_cases z : q = tcN c
    · omega
    · have e' : (if q = tcN c then some (41, 0, [bsl], RK) else tcD c q) = some y := e
      rw [if_neg z] at e'
      exact pg.1 q y e'
/-- it is laid -/
theorem Un_v (h : PgT E vg nu N0 W c) (hn : nu ≤ 40) (hN0 : N0 ≤ tcN c) (sg : Sgm 41 0 (glD E vg) (VmD 0) 1 cs) (hl : tcN c + cs.length + 1 ≤ 36864) (hC1 : ∀ i, i < tcN c → C i = tcC c i) (hC2 : ∀ i, i < cs.length → C (tcN c + i) = cs.getD i 0) (hC3 : C (tcN c + cs.length) = em 10 0) : ∃ D, PgT E vg nu N0 W (mkc c C (tcN c + cs.length + 1) D) ∧ D (tcN c) = some (41, 0, [bsl], RK) ∧ (∀ q y, tcD c q = some y → D q = some y) ∧ ∀ q, q < tcN c → D q = tcD c q := by
  have rk : RK = 40000 := rfl
  have hD := h.2.1
  have t0 := h.1
  have F0 : tcF c 41 = 0 := h.2.2.2.1.2.2.2
  obtain ⟨t, pg⟩ := un_v h hN0
  generalize hc1 : mkc c (tcC c) (tcN c) (fun p => if p = tcN c then some (41, 0, [bsl], RK) else tcD c p) = c1 at t pg
  have eN : tcN c1 = tcN c := by rw [← hc1]
  have eD : ∀ q, tcD c1 q = if q = tcN c then some (41, 0, [bsl], RK) else tcD c q := fun q => by rw [← hc1]
  have eF : tcF c1 41 = 0 := by rw [← hc1]; exact F0
  have eM : ∀ C N D, mkc c1 C N D = mkc c C N D := fun C N D => by rw [← hc1]
  have eC : tcC c1 = tcC c := by rw [← hc1]
  clear hc1
  have d0 : tcD c1 (tcN c1) = some (41, 0, sh [] 0 [], RK) := by rw [eD, eN, if_pos rfl]; rfl
  obtain ⟨D, t1, e1, f1⟩ := sg.2 noP noP nu RK c1 0 [] 0 [] C t (fun z => z) d0 (fun e he => absurd he List.not_mem_nil) (CnC_P (F := 0) (v := 0) pg hn (Or.inr rfl) eF (by omega) (Nat.le_refl _)) (by omega) (Nat.le_refl _) (by omega) (by omega) (by rw [eN, eC]; exact hC1) (by rw [eN]; exact hC2)
  rw [eN] at t1 e1 f1
  have dd : ∀ q y, tcD c q = some y → D q = some y := fun q y e => by
    have lt : q < tcN c := by
      rcases Nat.lt_trichotomy q (tcN c) with z | z | z
      · exact z
      · rw [z, hD] at e; cases e
      · rw [t0.2.2.2.1 q z] at e; cases e
    rw [e1 q (by omega), eD, if_neg (by omega)]
    exact e
  have t2 := TI_la (op := 10) (C := C) t1 (by decide) (by show tcN c + cs.length + 1 ≤ 36864; omega) f1 (by decide) (by omega) (fun _ _ => rfl) hC3 (fun c' a => OKI_v (by decide) ⟨rfl, by omega⟩)
  refine ⟨fun q => if q = tcN c + cs.length + 1 then none else D q, ⟨?_, if_pos rfl, ?_⟩, ?_, fun q y e => ?_, fun q hq => ?_⟩
  · rw [← eM]
    exact t2
  · refine PgU_k h.2.2 (by omega) (fun q y e => ?_) (fun q y e => ?_)
    · have lt : q ≤ tcN c := by
        rcases Nat.lt_or_ge (tcN c) q with z | z
        · rw [t0.2.2.2.1 q z] at e; cases e
        · exact z
      show (if q = tcN c + cs.length + 1 then none else D q) = some y
      rw [if_neg (by omega)]
      exact dd q y e
    · by_cases z : q = tcN c + cs.length + 1
      · have e' : (if q = tcN c + cs.length + 1 then none else D q) = some y := e
        rw [if_pos z] at e'
        cases e'
      · have e' : (if q = tcN c + cs.length + 1 then none else D q) = some y := e
        rw [if_neg z] at e'
        rcases Nat.lt_or_ge q (tcN c) with w | w
        · rw [e1 q (by omega), eD, if_neg (by omega)] at e'
          exact h.2.2.1 q y e'
        · omega
  · show (if tcN c = tcN c + cs.length + 1 then none else D (tcN c)) = _
    rw [if_neg (by omega), e1 _ (Nat.le_refl _), eD, if_pos rfl]
  · have lt : q ≤ tcN c := by
      rcases Nat.lt_or_ge (tcN c) q with z | z
      · rw [t0.2.2.2.1 q z] at e; cases e
      · exact z
    show (if q = tcN c + cs.length + 1 then none else D q) = some y
    rw [if_neg (by omega)]
    exact dd q y e
  · show (if q = tcN c + cs.length + 1 then none else D q) = _
    rw [if_neg (by omega), e1 q (by omega), eD, if_neg (by omega)]
/-- of what lies from N on, what is of unit 41 -/
def rsD (N : Nat) (D : Nat → Option (Nat × Nat × List Nat × Nat)) (q : Nat) : Option (Nat × Nat × List Nat × Nat) := if q < N then D q else match D q with
  | none => none
  | some x => if x.1 = 41 ∨ x.1 = 141 then some x else none
theorem rsD_1 {q : Nat} (h : q < N) : rsD N D q = D q := if_pos h
theorem rsD_2 {q : Nat} {x : Nat × Nat × List Nat × Nat} (h : D q = some x) (hx : x.1 = 41 ∨ x.1 = 141) : rsD N D q = some x := by
  unfold rsD
  by_cases z : q < N
  · rw [if_pos z]; exact h
  · rw [if_neg z, h]
    exact if_pos hx
theorem rsD_3 {q : Nat} {x : Nat × Nat × List Nat × Nat} (hq : ¬ q < N) (h : rsD N D q = some x) : D q = some x ∧ (x.1 = 41 ∨ x.1 = 141) := by
  unfold rsD at h
  rw [if_neg hq] at h
  cases e : D q with
  | none => rw [e] at h; cases h
  | some y =>
    rw [e] at h
    have h' : (if y.1 = 41 ∨ y.1 = 141 then some y else none) = some x := h
    by_cases k : y.1 = 41 ∨ y.1 = 141
    · rw [if_pos k] at h'
      cases h'
      exact ⟨rfl, k⟩
    · rw [if_neg k] at h'; cases h'
/-- as ck_M, with the told funcs alone -/
theorem ck_M2 (ut : UTb b nu c MD σ) (r18 : σ.2.2.1 (pR18 b) 0 = nI vg) (vg60 : vg ≤ 60) (nu40 : nu ≤ 40) (h : PgT E vg nu 0 vg c) (hc : ∀ i, i < tcN c → cdr b σ i = tcC c i) (le : tcN c ≤ cdn b σ) (h41 : σ.2.2.1 (pR18 b) 41 = 0) {pc : Nat} {x : Nat × Nat × List Nat × Nat} (e' : tcD c pc = some x) : CkP (cdr b σ, cdn b σ, fun v => uN (σ.2.2.1 (pR13 b) v), fun v => uN (σ.2.2.1 (pR14 b) v), fun v => uN (σ.2.2.1 (pR18 b) v), fun v => tcK c v ∧ v ≤ nu, tcD c) pc := by
  obtain ⟨ti, dn, pgu⟩ := h
  have lt : pc < tcN c := by
    rcases Nat.lt_trichotomy pc (tcN c) with z | z | z
    · exact z
    · rw [z, dn] at e'; cases e'
    · rw [ti.2.2.2.1 pc z] at e'; cases e'
  rcases ti.2.2.2.2 pc _ e' lt with z | ⟨ln, Rp, l1, l2, l3, l4, ok⟩
  · exact z.elim
  have cg : CtG noP (x.1 % 100) nu c (cdr b σ, cdn b σ, fun v => if v = 41 then tcE c 41 else uN (σ.2.2.1 (pR13 b) v), fun v => if v = 41 then tcP c 41 else uN (σ.2.2.1 (pR14 b) v), fun v => uN (σ.2.2.1 (pR18 b) v), fun v => tcK c v ∧ v ≤ nu, tcD c) := by
    have f0 : uN (σ.2.2.1 (pR18 b) 0) = tcF c 0 := by rw [r18, u_n (by omega), pgu.2.1.1.2]
    refine ⟨le, fun v hv => ?_, fun v hv => ⟨fun z => z.1, fun z => ⟨z, ?_⟩⟩, ⟨Nat.le_of_eq f0.symm, fun _ => f0⟩, fun p x ex => ⟨fun _ => ex, fun o => o.elim⟩⟩
    · rcases hv with ⟨v1, v2⟩ | hv
      · obtain ⟨k1, k2, k3⟩ := ut_E ut pgu ti.1 v1 v2
        refine ⟨?_, ?_, k3⟩
        · show (if v = 41 then tcE c 41 else uN (σ.2.2.1 (pR13 b) v)) = _
          rw [if_neg (by omega)]; exact k1
        · show (if v = 41 then tcP c 41 else uN (σ.2.2.1 (pR14 b) v)) = _
          rw [if_neg (by omega)]; exact k2
      · subst hv
        refine ⟨(show (if (41 : Nat) = 41 then tcE c 41 else uN (σ.2.2.1 (pR13 b) 41)) = tcE c 41 from if_pos rfl), (show (if (41 : Nat) = 41 then tcP c 41 else uN (σ.2.2.1 (pR14 b) 41)) = tcP c 41 from if_pos rfl), ?_⟩
        show uN (σ.2.2.1 (pR18 b) 41) = tcF c 41
        rw [h41, pgu.2.1.2.2.2]; rfl
    · rcases hv with hv | hv
      · exact hv
      · rw [hv] at z
        exact absurd z pgu.2.1.2.2.1
  have shr : ShR 0 (cdr b σ, cdn b σ, fun v => if v = 41 then tcE c 41 else uN (σ.2.2.1 (pR13 b) v), fun v => if v = 41 then tcP c 41 else uN (σ.2.2.1 (pR14 b) v), fun v => uN (σ.2.2.1 (pR18 b) v), fun v => tcK c v ∧ v ≤ nu, tcD c) (cdr b σ, cdn b σ, fun v => uN (σ.2.2.1 (pR13 b) v), fun v => uN (σ.2.2.1 (pR14 b) v), fun v => uN (σ.2.2.1 (pR18 b) v), fun v => tcK c v ∧ v ≤ nu, tcD c) := ⟨fun p x ex => ⟨Nat.zero_le _, ex⟩, rfl, fun v hv => ⟨if_neg (by omega), if_neg (by omega)⟩, fun _ => rfl, fun _ => Iff.rfl, fun i => rfl⟩
  have ck : CkP (cdr b σ, cdn b σ, fun v => if v = 41 then tcE c 41 else uN (σ.2.2.1 (pR13 b) v), fun v => if v = 41 then tcP c 41 else uN (σ.2.2.1 (pR14 b) v), fun v => uN (σ.2.2.1 (pR18 b) v), fun v => tcK c v ∧ v ≤ nu, tcD c) (pc + 0) := ok _ cg (fun i i1 i2 => hc i (by omega)) (fun _ _ o _ => o.elim)
  have t1 := ti.1
  exact mvd_P shr (fun x ex => ex) (by omega) ck
/-- the machine's code while an exp is asked: c is that of the program, D with the exp -/
theorem ck_R (ck : CkA (cM c b σ)) (t0 : PgT E vg nu 0 vg c) (eN : tcN c = N) (ut : UTb b nu c MD σ) (r18 : σ.2.2.1 (pR18 b) 0 = nI vg) (vg60 : vg ≤ 60) (nu40 : nu ≤ 40) (t1 : PgT E vg nu 0 vg (mkc c C M D)) (hc : ∀ i, i < M → cdr b σ i = C i) (le : M ≤ cdn b σ) (h41 : σ.2.2.1 (pR18 b) 41 = 0) (h1 : ∀ q y, tcD c q = some y → D q = some y) (h2 : ∀ q, q < N → D q = tcD c q) : CkA (cM (mkc c C M (rsD N D)) b σ) ∧ (∀ p x, tcD c p = some x → rsD N D p = some x) ∧ ∀ p x, rsD N D p = some x → x.1 < 41 → tcD c p = some x := by
  have ltN : ∀ p x, tcD c p = some x → p < N := fun p x e => by
    rcases Nat.lt_trichotomy p N with z | z | z
    · exact z
    · rw [z, ← eN, t0.2.1] at e; cases e
    · rw [t0.1.2.2.2.1 p (by omega)] at e; cases e
  have up : ∀ p x, tcD c p = some x → rsD N D p = some x := fun p x e => by rw [rsD_1 (ltN p x e)]; exact h1 p x e
  have dn : ∀ p x, rsD N D p = some x → x.1 < 41 → tcD c p = some x := fun p x e hx => by
    by_cases z : p < N
    · rw [rsD_1 z, h2 p z] at e; exact e
    · have := (rsD_3 z e).2
      omega
  refine ⟨⟨ck.1, ck.2.1, fun pc => ?_⟩, up, dn⟩
  by_cases z : pc < N
  · have sh0 : ShR 0 (cM c b σ) (cM (mkc c C M (rsD N D)) b σ) := ⟨fun p x ex => ⟨Nat.zero_le _, up p x ex⟩, rfl, fun v hv => ⟨rfl, rfl⟩, fun _ => rfl, fun _ => Iff.rfl, fun i => rfl⟩
    have k : CkP (cM c b σ) (pc + 0) := ck.2.2 pc
    exact mvd_P (c2 := cM (mkc c C M (rsD N D)) b σ) sh0 (fun x ex => by
      have ex' : rsD N D pc = some x := ex
      rw [rsD_1 z, h2 pc z] at ex'
      exact ex') (by have := t0.1.1; omega) k
  · intro u d r rk e
    have e' : rsD N D pc = some (u, d, r, rk) := e
    obtain ⟨e1, e2⟩ := rsD_3 z e'
    have k := ck_M2 (c := mkc c C M D) (x := (u, d, r, rk)) (MD := MD) (fun i hi => ut i hi) r18 vg60 nu40 t1 hc le h41 e1
    have lt : pc < M := by
      rcases Nat.lt_trichotomy pc M with w | w | w
      · exact w
      · have y : D M = none := t1.2.1
        rw [w, y] at e1; cases e1
      · have y : D pc = none := t1.1.2.2.2.1 pc w
        rw [y] at e1; cases e1
    have M36 : M ≤ 36864 := t1.1.1
    refine rst_P (c1 := (cdr b σ, cdn b σ, fun v => uN (σ.2.2.1 (pR13 b) v), fun v => uN (σ.2.2.1 (pR14 b) v), fun v => uN (σ.2.2.1 (pR18 b) v), fun v => tcK c v ∧ v ≤ nu, D)) (c2 := cM (mkc c C M (rsD N D)) b σ) ⟨fun p x ex hx => rsD_2 ex hx, rfl, fun v kv => ⟨⟨rfl, rfl⟩, kv.1, fun x ex => ?_⟩, fun _ => rfl, trivial, fun _ => rfl⟩ (fun x ex => rsD_3 z ex) (by omega) k u d r rk e
    have v1 : 1 ≤ v := by
      rcases Nat.eq_zero_or_pos v with w | w
      · have := kv.1
        rw [w] at this
        exact absurd this t0.2.2.2.1.2.1
      · exact w
    have kv2 : v ≤ nu := kv.2
    obtain ⟨k1, _, _⟩ := ut_E ut t0.2.2 t0.1.1 v1 kv2
    obtain ⟨_, _, rk', _, _, a5⟩ := t0.2.2.2.2.1 (v - 1) (by omega)
    rw [show v - 1 + 1 = v by omega] at a5
    have lt2 := ltN _ _ a5
    show rsD N D (uN (σ.2.2.1 (pR13 b) v)) = some x
    have ex' : D (uN (σ.2.2.1 (pR13 b) v)) = some x := ex
    rw [k1] at ex' ⊢
    rw [rsD_1 lt2]
    exact ex'
end DZL
end JnS563
section JnS564
/-! The house behind an exp that was read. -/
section DZM
variable {σ s s1 : CS} {b : Bool} {N N0 M W n sz sz' V vg nu F j : Nat} {E : En} {c c' : Ct} {MD : Nat → Nat → Nat} {tb : List Ent} {gl : List Gn} {pr : Nat → Nat} {XE : XEt}
/-- the house's own numbers and rows -/
def VwZ (s1 s : CS) : Prop := (∀ j, ¬ (j = 3701 ∨ j = 7512 ∨ j = 7513 ∨ j = 7519) → s.1 j = s1.1 j) ∧ s.2.1 = s1.2.1 ∧ (∀ k, ¬ (k = 64 ∨ k = 65 ∨ k = 67) → s.2.2.1 k = s1.2.2.1 k) ∧ s.2.2.2 = s1.2.2.2
theorem vr_n (vr : VwZ s1 s) : sN s = sN s1 := by show s.2.2.2.2.1 = _; rw [vr.2.2.2]
theorem vr_tb (rx : RxF b N tb.length n σ s1) (vr : VwZ s1 s) (e11 : s1.1 (fP b 11) = nI tb.length) (h : TbR b tb σ) : TbR b tb s := by
  have fc11 := fP_c b 11
  have p13 := pR_13 b
  obtain ⟨v1, v2, v3, v4⟩ := vr
  refine ⟨(v1 _ (by omega)).trans e11, h.2.1, fun i hi => ?_⟩
  obtain ⟨⟨y1, y2⟩, ⟨y3, y4⟩, y5, y6⟩ := rx.2.2.2.2.1 i hi
  rw [v4, v3 (pR7 b) (by omega), v3 (pR8 b) (by omega), v3 (pR9 b) (by omega), v3 (pR10 b) (by omega), y1, y2, y3, y4, y5, y6]
  exact h.2.2 i hi
theorem vr_ut (rx : RxF b N M n σ s1) (vr : VwZ s1 s) (nu40 : nu ≤ 40) (h : UTb b nu c MD σ) : UTb b nu c MD s := fun i hi => by
  have p13 := pR_13 b
  obtain ⟨v1, v2, v3, v4⟩ := vr
  obtain ⟨y1, y2, y3, y4⟩ := rx.2.2.2.1.1 (i + 1) (by omega)
  rw [v3 (pR13 b) (by omega), v3 (pR14 b) (by omega), v3 (pR15 b) (by omega), v3 (pR18 b) (by omega), y1, y2, y3, y4]
  exact h i hi
theorem vr_18 (rx : RxF b N M n σ s1) (vr : VwZ s1 s) : s.2.2.1 (pR18 b) 0 = σ.2.2.1 (pR18 b) 0 := by
  have p13 := pR_13 b
  rw [vr.2.2.1 (pR18 b) (by omega)]
  exact (rx.2.2.2.1.1 0 (by decide)).2.2.2
theorem vr_cd (rx : RxF b N M n σ s1) (vr : VwZ s1 s) : (∀ i, cdr b s i = cdr b s1 i) ∧ cdn b s = cdn b s1 := by
  have p0 := pR0_c (sKd s1 b)
  have kd : sKd s = sKd s1 := by show s.2.2.2.2.2.1.2.2.2.2 = _; rw [vr.2.2.2]
  refine ⟨fun i => ?_, ?_⟩
  · show s.2.2.1 (pR0 (sKd s b)) i = s1.2.2.1 (pR0 (sKd s1 b)) i
    rw [kd, vr.2.2.1 _ (by omega)]
  · show sN s (pR0 (sKd s b)) = sN s1 (pR0 (sKd s1 b))
    rw [kd, vr_n vr]
theorem vr_x (rx : RxF b N M n σ s1) (vr : VwZ s1 s) : PFx σ s := by
  have fc1 := fP_c b 1
  have fc11 := fP_c b 11
  have fc19 := fP_c b 19
  have p13 := pR_13 b
  refine ⟨⟨fun j hj h4 => (vr.1 j (by omega)).trans (rx.1.1 j (by omega)), fun j hj => by rw [vr.2.1]; exact rx.1.2 j (by omega)⟩, fun k hk => ⟨(vr.2.2.1 k (by omega)).trans (rx.2.1.1 k (by omega)), by rw [vr_n vr]; exact rx.2.1.2.1 k (by omega)⟩, ?_⟩
  rw [vr.2.2.2]
  exact rx.2.2.1.2.2
theorem vr_by (rx : RxF b N M n σ s1) (vr : VwZ s1 s) (h : BY False σ) : BY False s := by
  have fc1 := fP_c b 1
  have fc11 := fP_c b 11
  have fc19 := fP_c b 19
  have p13 := pR_13 b
  unfold BY at h ⊢
  rw [vr_n vr, rx.2.1.2.1 22 (by omega), rx.2.1.2.1 66 (by omega), vr.2.2.1 13 (by omega), vr.2.2.1 22 (by omega), vr.2.2.1 66 (by omega), rx.2.1.1 13 (by omega), rx.2.1.1 22 (by omega), rx.2.1.1 66 (by omega), vr.1 1812 (by omega), vr.1 1813 (by omega), vr.1 1907 (by omega), rx.1.1 1812 (by omega), rx.1.1 1813 (by omega), rx.1.1 1907 (by omega)]
  exact h
theorem vr_rw (rx : RxF b N M n σ s1) (vr : VwZ s1 s) (h18 : σ.2.2.1 (pR18 b) 41 = 0) (h14 : σ.2.2.1 (pR14 b) 41 = 0) : s.2.2.1 (pR14 b) = σ.2.2.1 (pR14 b) ∧ s.2.2.1 (pR18 b) = σ.2.2.1 (pR18 b) := by
  have p13 := pR_13 b
  rw [vr.2.2.1 (pR14 b) (by omega), vr.2.2.1 (pR18 b) (by omega)]
  refine ⟨funext (fun i => ?_), funext (fun i => ?_)⟩
  · by_cases e : i = 41
    · rw [e, h14]; exact rx.2.2.2.1.2.1
    · exact (rx.2.2.2.1.1 i e).2.1
  · by_cases e : i = 41
    · rw [e, h18]; exact rx.2.2.2.1.2.2
    · exact (rx.2.2.2.1.1 i e).2.2.2
theorem vr_ct (rx : RxF b N M n σ s1) (vr : VwZ s1 s) (h18 : σ.2.2.1 (pR18 b) 41 = 0) (h14 : σ.2.2.1 (pR14 b) 41 = 0) (kk : tcK c' = tcK c) (dd : ∀ p x, tcD c p = some x → tcD c' p = some x) : CtX (cM c b σ) (cM c' b s) := by
  obtain ⟨e1, e2⟩ := vr_rw rx vr h18 h14
  refine ⟨?_, ?_, kk, dd⟩
  · show (fun u => uN (s.2.2.1 (pR14 b) u)) = fun u => uN (σ.2.2.1 (pR14 b) u)
    rw [e1]
  · show (fun u => uN (s.2.2.1 (pR18 b) u)) = fun u => uN (σ.2.2.1 (pR18 b) u)
    rw [e2]
theorem vr_0 (rx : RxF b N M n σ s1) (vr : VwZ s1 s) (h : ∀ d, σ.2.2.1 (pR18 d) 41 = 0 ∧ σ.2.2.1 (pR14 d) 41 = 0) (d : Bool) : s.2.2.1 (pR18 d) 41 = 0 ∧ s.2.2.1 (pR14 d) 41 = 0 := by
  by_cases e : d = b
  · rw [e]
    obtain ⟨e1, e2⟩ := vr_rw rx vr (h b).1 (h b).2
    rw [e1, e2]
    exact h b
  · have q1 : s.2.2.1 (pR18 d) = σ.2.2.1 (pR18 d) := (vr.2.2.1 _ (by cases d <;> decide)).trans (rx.2.1.1 _ (by cases d <;> cases b <;> first | exact absurd rfl e | decide))
    have q2 : s.2.2.1 (pR14 d) = σ.2.2.1 (pR14 d) := (vr.2.2.1 _ (by cases d <;> decide)).trans (rx.2.1.1 _ (by cases d <;> cases b <;> first | exact absurd rfl e | decide))
    rw [q1, q2]
    exact h d
theorem vr_ok (rx : RxF b N M n σ s1) (vr : VwZ s1 s) (e37 : s.1 3701 = 0) : tOK s := by
  obtain ⟨h1, h2, h3, h4, h5, _⟩ := rx.2.2.2.2.2.2.2.2
  unfold tOK
  rw [e37, vr_n vr, vr.2.2.1 38 (by omega)]
  have z0 : (0 : Int32).toInt = 0 := rfl
  exact ⟨by omega, by omega, by omega, h4, h5⟩
/-- the house stands behind it -/
theorem IC_cl (t3 : n ≤ 20 * j) (t4 : σ.2.2.2.1 39 = lxW) (p1 : sOt σ = !(sCur σ)) (p2 : ∀ b, σ.2.2.1 (pR18 b) 41 = 0 ∧ σ.2.2.1 (pR14 b) 41 = 0) (p4 : sN σ 42 = 64 ∨ sN σ 42 = 16384) (p6 : 2 * sz + 7 * (n + 20 * (512 - j)) ≤ 71682) (q1 : uN (σ.1 7517) ≤ sN σ 66) (q2 : uN (σ.1 7518) ≤ 2) (m1 : Hmx σ) (m2 : BY False σ) (k0 : ¬ σ.1 7510 = 0) (hX : XE = some (gl, pr)) (k4 : ¬ σ.1 7511 = 0 → sPr σ = some (sCur σ) ∧ Mst (cM c (sCur σ) σ) σ ∧ uN (σ.1 1903) ≤ 20000 * j) (hj : j < 512) (rx : RxF (sCur σ) N M n σ s1) (vr : VwZ s1 s) (e37 : s.1 3701 = 0) (h67 : ∀ g : Nat → Prop, (∀ i, i < 27 → Gv g (σ.2.2.1 67 i)) → ∀ i, i < 27 → Gv g (s.2.2.1 67 i)) (v8 : uN (s.1 7513) ≤ 8) (cd' : CdL (sCur σ) sz' s) (bd : 2 * sz' ≤ 2 * sz + 7 * n + 140) (kk : tcK c' = tcK c) (dd : ∀ p x, tcD c p = some x → tcD c' p = some x) (pg' : PgI gl pr (sCur σ) sz' (uN (s.1 7513)) c' s) : IC XE (j + 1) s := by
  have fc1 := fP_c (sCur σ) 1
  have fc11 := fP_c (sCur σ) 11
  have fc19 := fP_c (sCur σ) 19
  have p13 := pR_13 (sCur σ)
  have px := vr_x rx vr
  have by0 := vr_by rx vr m2
  have sc : sCur s = sCur σ := by show s.2.2.2.2.2.1.1 = _; rw [vr.2.2.2]; exact rx.2.2.1.1.1
  have so : sOt s = sOt σ := by show s.2.2.2.2.2.1.2.1 = _; rw [vr.2.2.2]; exact rx.2.2.1.1.2.1
  have sp : sPr s = sPr σ := by show s.2.2.2.2.2.1.2.2.1 = _; rw [vr.2.2.2]; exact rx.2.2.1.1.2.2
  have ff : ∀ i, ¬ (i = 404 ∨ (3701 ≤ i ∧ i ≤ 3704) ∨ (4003 ≤ i ∧ i ≤ 4020) ∨ (5000 ≤ i ∧ i ≤ 5019) ∨ (6800 ≤ i ∧ i ≤ 6819) ∨ i = 7512 ∨ i = 7513 ∨ i = 7519) → s.1 i = σ.1 i := fun i hi => (vr.1 i (by omega)).trans (rx.1.1 i (by omega))
  have nn := vr_n vr
  have e10 : s.1 7510 = σ.1 7510 := ff 7510 (by decide)
  have e11 : s.1 7511 = σ.1 7511 := ff 7511 (by decide)
  have hm : Hmx s ∧ (¬ s.1 7511 = 0 → sPr s = some (sCur s) ∧ Mst (cM c' (sCur s) s) s ∧ uN (s.1 1903) ≤ 20000 * (j + 1)) := by
    by_cases c11 : σ.1 7511 = 0
    · obtain ⟨g, l, t, K4, hb⟩ := m1
      exact ⟨⟨g, l, t, K4, Hmb_xx px (h67 g (fun i hi => (hb.2.2.2.1 i hi).2.1 rfl)) hb⟩, fun z => absurd (e11.trans c11) z⟩
    · obtain ⟨y1, y2, y3⟩ := k4 c11
      obtain ⟨g, l, t, mg⟩ := Mst_G y2
      have mg2 := MsG_xx (vr_ct rx vr (p2 _).1 (p2 _).2 kk dd) px (ct_M (c := c') (sp.trans y1)) by0 (h67 g (MsG_v mg).2) mg
      have ms2 := Mst_of mg2
      have e9 : s.1 1903 = σ.1 1903 := ff 1903 (by decide)
      exact ⟨Hmx_of ms2, fun _ => ⟨by rw [sc]; exact sp.trans y1, by rw [sc]; exact ms2, by rw [e9]; omega⟩⟩
  have lx : s.2.2.2.1 39 = lxW := by rw [vr.2.2.2, rx.2.1.2.2 39 (by omega)]; exact t4
  refine ⟨0, sz', ⟨vr_ok rx vr e37, e37, Nat.zero_le _, lx⟩, ⟨by rw [sc, so]; exact p1, fun d => vr_0 rx vr p2 d, by rw [nn]; exact rx.2.2.2.2.2.2.2.1, by rw [nn, rx.2.1.2.1 42 (by omega)]; exact p4, by rw [sc]; exact cd', by omega⟩, ⟨by rw [ff 7517 (by decide), nn, rx.2.1.2.1 66 (by omega)]; exact q1, by rw [ff 7518 (by decide)]; exact q2, v8⟩, ⟨hm.1, by0⟩, Or.inr ⟨by rw [e10]; exact k0, gl, pr, c', hX, by rw [sc]; exact pg', hm.2⟩⟩
end DZM
end JnS564
section JnS565
/-! The house: view, on both sides. -/
section DZN
variable {σ s s1 : CS} {τ : MS} {b : Bool} {N N0 M W n sz sz' V vg nu F j : Nat} {E : En} {c c' : Ct} {MD : Nat → Nat → Nat} {tb : List Ent} {gl : List Gn} {pr : Nat → Nat} {XE : XEt} {L : Nat → Int32}
theorem rj_viewN (h : RfJ XE j τ) (c : τ.1 111 = 0) : Tm (fun k => x_view k 0 L τ) (fun r => RfJ XE (j + 1) r.2 ∧ KpT τ r.2 ∧ r.2.1 2 = 1 ∧ r.2.1 11 = τ.1 11) := by
  refine Tm_suc (fun k => by rw [x_view]) ?_
  refine Tm_ite (fun _ => ?_) (fun z => absurd c z)
  refine Tm_suc (fun k => by rw [x_view]) ?_
  refine Tm_ob (s_good _ _) (fun r hr => ?_)
  rw [hr]
  refine Tm_ite (fun _ => ?_) (fun z => absurd rfl z)
  exact Tm_some ⟨RfJ_2 h, KpT_2, rfl, rfl⟩
/-- the program stands as it was -/
theorem vr_pg (rx : RxF b sz (tbE 0 E).length n σ s1) (vr : VwZ s1 s) (e11 : s1.1 (fP b 11) = nI (tbE 0 E).length) (r64 : s.2.2.1 64 = σ.2.2.1 64) {e0 : Nat} (tb : TbR b (tbE 0 E) σ) (de : DE E 0 vg nu vg) (ut : UTb b nu c MD σ) (r18 : σ.2.2.1 (pR18 b) 0 = nI vg) (pgt : PgT E vg nu 0 vg c) (eN : tcN c = sz) (hc : ∀ i, i < sz → cdr b σ i = tcC c i) (en : σ.1 (fP b 2) = nI e0 ∧ e0 < sz ∧ tcD c e0 = some (0, 0, (bsl + vg) :: Vl vg, 2)) (vw : ∀ i, i < V → ∃ pc rk, σ.2.2.1 64 i = nI pc ∧ pc < sz ∧ rk ≤ RK ∧ tcD c pc = some (41, 0, [bsl], rk)) : PgI E.1 E.2.2.2.2.2.2 b sz V c s := by
  have fn := fP_ns b
  have fc2 := fP_c b 2
  refine ⟨E, nu, vg, e0, MD, ⟨rfl, rfl⟩, ⟨vr_tb rx vr e11 tb, de⟩, ⟨vr_ut rx vr de.2.1.2.2.1 ut, (vr_18 rx vr).trans r18⟩, pgt, ⟨eN, fun i hi => ((vr_cd rx vr).1 i).trans ((rx.2.2.2.2.2.1 i hi).1.trans (hc i hi))⟩, ⟨?_, en.2⟩, fun i hi => by rw [r64]; exact vw i hi⟩
  rw [vr.1 _ (by omega), rx.1.1 _ (by omega)]
  exact en.1
/-- of a call that left the house's state as it was, and what is told of both answers -/
theorem IB_k3 {σ : CS} {τ : MS} {E : Int32 × MS → Prop} {gM : Nat → Option (Int32 × MS)} (h : IB j σ τ) (hj : j < 512) (hr : ∀ XE, RfJ XE j τ → Tm (fun k => gM k) (fun q : Int32 × MS => RfJ XE (j + 1) q.2 ∧ KpT τ q.2 ∧ E q)) : Tm (fun k => gM k) (fun q : Int32 × MS => IB (j + 1) σ q.2 ∧ E q) := by
  obtain ⟨XE, ic, rf, tr, e10, e11, e13⟩ := h
  refine Tm_mono (hr XE rf) (fun q w => ?_)
  obtain ⟨w1, w2, w3⟩ := w
  exact ⟨⟨XE, IC_s ic hj, w1, KpT_rel tr w2, by rw [w2.2.2.1]; exact e10, by rw [w2.2.2.2]; exact e11, by rw [w2.2.1]; exact e13⟩, w3⟩
/-- what view answers -/
def EVw (r : RS) (q : Int32 × MS) : Prop := (r.1.1 = 0 → q.2.1 2 = 0 ∧ r.1.2 = q.1) ∧ (r.1.1 = 2 → q.2.1 2 = 1) ∧ (r.1.1 = 4 → q.2.1 2 = 2)
theorem hp_viewE (hj : j < 512) : cPq j (fun x => x = 0 ∨ x = 2 ∨ x = 4) (fun σ k => f_X11_view k 0 lZ σ) (fun τ k => x_view k 0 (fun _ => 0) τ) EVw FK := by
  intro σ τ h
  have h0 := h
  obtain ⟨XE, ic, rf, tr, e10, e11, e13⟩ := h
  show Tm (fun k => f_X11_view k 0 lZ σ) _
  refine Tm_suc (fun k => by rw [f_X11_view]) ?_
  refine Tm_ite (fun c => ?_) (fun c => ?_)
  · exact Tm_some ⟨Or.inr (Or.inl rfl), by show 1 + PhC σ ≤ _; omega, by show 6 + PhS σ ≤ _; omega, IB_k3 (gM := fun k => x_view k 0 (fun _ => 0) τ) h0 hj (fun XE rf => Tm_mono (rj_viewN rf (e10.1 c)) (fun q w => ⟨w.1, w.2.1, ⟨fun z => absurd (show (2 : Nat) = 0 from z) (by decide), fun _ => w.2.2.1, fun z => absurd (show (2 : Nat) = 4 from z) (by decide)⟩, Or.inr ⟨rfl, w.2.2.2⟩⟩))⟩
  obtain ⟨n, sz, ⟨t1, t2, t3, t4⟩, ⟨p1, p2, p3, p4, p5, p6⟩, ⟨q1, q2, q3⟩, ⟨m1, m2⟩, pp⟩ := ic
  refine Tm_suc (fun k => by rw [f_X11_view]) ?_
  refine Tm_ite (fun c8 => ?_) (fun c8 => ?_)
  case refine_2 =>
    have u8 : uN (8 : Int32) = 8 := rfl
    have e8 : σ.1 7513 = 8 := by
      refine u_eq.2 ?_
      have c8' : ¬ σ.1 7513 < 8 := c8
      rw [u_ltn (by omega) (by omega)] at c8'
      omega
    refine Tm_some ⟨Or.inr (Or.inr rfl), by show 1 + PhC σ ≤ _; omega, by show 6 + PhS σ ≤ _; omega, IB_k3 (gM := fun k => x_view k 0 (fun _ => 0) τ) h0 hj (fun XE rf => Tm_mono (rj_view rf) (fun r w => ⟨w.1, ?_⟩))⟩
    rcases w.2.2 with z | z | z
    · exact absurd (e10.2 z.1) c
    · exact ⟨z.2.2.1, ⟨fun y => absurd (show (4 : Nat) = 0 from y) (by decide), fun y => absurd (show (4 : Nat) = 2 from y) (by decide), fun _ => z.2.1⟩, Or.inr ⟨rfl, z.2.2.2⟩⟩
    · exact absurd (e13.symm.trans e8) z.2.1
  obtain ⟨k0, gl, pr, cc, hX, pg, k4⟩ := pp.resolve_left (fun z => c z.1)
  obtain ⟨qq, kq, hq, w1, ⟨w2, w3⟩, w4⟩ := rj_view (L := fun _ => 0) rf
  have v8 : uN (σ.1 7513) < 8 := by
    have u8 : uN (8 : Int32) = 8 := rfl
    have c8' : σ.1 7513 < 8 := c8
    rw [u_ltn (by omega) (by omega)] at c8'
    omega
  have n8 : ¬ τ.1 73 = 8 := fun z => by
    rw [← e13] at z
    have u8 : uN (8 : Int32) = 8 := rfl
    rw [z, u8] at v8
    omega
  obtain ⟨⟨q4, q42⟩, _, n', g, bt, x, tp, eg, hG, hv⟩ := (w4.resolve_left (fun z => c (e10.2 z.1))).resolve_left (fun z => n8 z.1)
  obtain rfl : n' = n := nI_inj (tp.1.1.symm.trans (tr.1.symm.trans t2)) (by have := tp.1.2; omega) (by omega)
  rw [hX] at eg
  cases eg
  obtain ⟨E, nu, vg, e0, MD, ⟨e1, e2⟩, ⟨tb, de⟩, ⟨ut, r18⟩, pgt, ⟨eN, hc⟩, en, vw⟩ := pg
  subst e1
  subst e2
  have fn := fP_ns (sCur σ)
  have fc1 := fP_c (sCur σ) 1
  have fc2 := fP_c (sCur σ) 2
  have fc11 := fP_c (sCur σ) 11
  have fc19 := fP_c (sCur σ) 19
  have p13 := pR_13 (sCur σ)
  have nu40 := de.2.1.2.2.1
  have re := c_readExp (b := sCur σ) (N := sz) (ρ := τ) (al := 0) (L := lI (lB lZ 1 (sCur σ)) 2 0) t1 t2 (by omega) t4 tr p5 p3 tb de pgt.2.2 ut (by omega) rfl rfl (by omega) hG
  refine Tm_suc (fun k => by rw [f_X11_view]) ?_
  refine Tm_oxc re (fun r z => z.1) (fun r1 z1 => ?_)
  obtain ⟨z1, z2, rx, z11, zn, zy⟩ := z1
  rw [Nat.zero_add, Nat.zero_add] at z2
  generalize hs2 : uI (uI r1.2.1 3701 0) 7512 ((uI r1.2.1 3701 0).1 4006) = s2
  have vr2 : VwZ r1.2.1 s2 := by
    rw [← hs2]
    exact ⟨fun j hj => by rw [uI_o (by omega), uI_o (by omega)], rfl, fun _ _ => rfl, rfl⟩
  have r2 : ∀ k, s2.2.2.1 k = r1.2.1.2.2.1 k := fun k => by rw [← hs2]; rfl
  have f37 : s2.1 3701 = 0 := by rw [← hs2, uI_o (by decide), uI_s]
  have f13 : s2.1 7513 = σ.1 7513 := by
    rw [← hs2, uI_o (by decide), uI_o (by decide)]
    exact rx.1.1 7513 (by omega)
  have f12 : s2.1 7512 = r1.2.1.1 4006 := by rw [← hs2, uI_s, uI_o (by decide)]
  have ph2 := Ph_s (σ := r1.2.1) (σ' := s2) (by rw [← hs2]; rfl)
  clear hs2
  have ff : ∀ i, i = 7510 ∨ i = 7511 → r1.2.1.1 i = σ.1 i := fun i hi => rx.1.1 i (by omega)
  cases x with
  | inl yf =>
    obtain ⟨⟨y1, y2⟩, y6, y7⟩ := zn yf rfl
    refine Tm_yes y1 ?_
    refine Tm_some ⟨Or.inl rfl, by show r1.2.2.1 + 0 + PhC s2 ≤ _; omega, by show r1.2.2.2 + 0 + PhS s2 ≤ _; omega, qq, kq, hq, ?_, ⟨fun _ => ⟨q42, ?_⟩, fun z => absurd (show (0 : Nat) = 2 from z) (by decide), fun z => absurd (show (0 : Nat) = 4 from z) (by decide)⟩, Or.inl ?_⟩
    rotate_left
    · rcases hv with ⟨z, e, _, e2, _⟩ | ⟨z, e, _⟩
      · cases e
        rw [e2]
        show -1 - s2.1 4007 = _
        rw [vr2.1 4007 (by decide), y7]
      · cases e
    · show s2.1 7512 = qq.2.1 11
      rw [f12, y6]
      rcases hv with ⟨z, e, _, _, e3⟩ | ⟨z, e, _⟩
      · cases e
        exact e3.symm
      · cases e
    have q73 : qq.2.1 73 = τ.1 73 := by
      rcases hv with ⟨z, e, e2, _⟩ | ⟨z, e, _⟩
      · exact e2
      · cases e
    have r64 : s2.2.2.1 64 = σ.2.2.1 64 := (r2 64).trans (rx.2.1.1 64 (by omega))
    have r67 : s2.2.2.1 67 = σ.2.2.1 67 := (r2 67).trans (rx.2.1.1 67 (by omega))
    have pg2 : PgI E.1 E.2.2.2.2.2.2 (sCur σ) sz (uN (s2.1 7513)) cc s2 := vr_pg rx vr2 z11 r64 tb de ut r18 pgt eN hc en (by rw [f13]; exact vw)
    have cd2 : CdL (sCur σ) sz s2 := by
      obtain ⟨_, e2⟩ := vr_cd rx vr2
      refine ⟨by rw [vr2.1 _ (by omega)]; exact y2, by rw [e2]; exact rx.2.2.2.2.2.2.1.1, by rw [e2, vr_n vr2]; exact rx.2.2.2.2.2.2.1.2⟩
    have ic2 : IC XE (j + 1) s2 := IC_cl t3 t4 p1 p2 p4 p6 q1 q2 m1 m2 k0 hX k4 hj rx vr2 f37 (fun g hg => by rw [r67]; exact hg) (by rw [f13]; exact q3) cd2 (by omega) rfl (fun _ _ z => z) pg2
    exact ⟨XE, ic2, w1, tRel_0 f37 q4, by rw [vr2.1 7510 (by decide), ff 7510 (by omega), w2]; exact e10, by rw [vr2.1 7511 (by decide), ff 7511 (by omega), w3]; exact e11, by rw [f13, q73]; exact e13⟩
  | inr t =>
    obtain ⟨⟨y1, y6⟩, cs, cd2, y3, y4, sg, ln⟩ := zy t rfl
    refine Tm_no (by rw [y1]; decide) ?_
    rw [p5.1]
    have q73 : qq.2.1 73 = τ.1 73 + 1 ∧ qq.1 = τ.1 73 ∧ qq.2.1 11 = 0 := by
      rcases hv with ⟨z, e, _⟩ | ⟨z, e, e2, e3⟩
      · cases e
      · exact ⟨e2, e3⟩
    obtain ⟨V, hV⟩ : ∃ V, uN (σ.1 7513) = V := ⟨_, rfl⟩
    have eV : σ.1 7513 = nI V := u_eq.2 (by rw [hV, u_n (by omega)])
    have fV : s2.1 7513 = nI V := f13.trans eV
    have e3 : 3 + 3 * s2.1 7513 = nI (3 + 3 * V) := by
      rw [fV]
      have := (by decide : ∀ m : Fin 8, (3 : Int32) + 3 * nI m.1 = nI (3 + 3 * m.1)) ⟨V, by omega⟩
      exact this
    have i8 : ¬ (s2.1 7513 < 0 ∨ 8 ≤ (s2.1 7513).toNatClampNeg) := by rw [fV]; exact n_in (by omega) (by omega)
    have c8i : (s2.1 7513).toNatClampNeg = V := by rw [fV, n_cl (p := V) (by omega)]
    have i27 : ∀ d, d ≤ 2 → ¬ (nI (3 + 3 * V) + nI d < 0 ∨ 27 ≤ (nI (3 + 3 * V) + nI d).toNatClampNeg) := fun d hd => by rw [n_add (by omega)]; exact n_in (by omega) (by omega)
    have c27 : ∀ d, d ≤ 2 → (nI (3 + 3 * V) + nI d).toNatClampNeg = 3 + 3 * V + d := fun d hd => by rw [n_add (by omega), n_cl (p := 3 + 3 * V + d) (by omega)]
    have i0 : ¬ (3 + 3 * s2.1 7513 < 0 ∨ 27 ≤ (3 + 3 * s2.1 7513).toNatClampNeg) := by rw [e3]; exact n_in (by omega) (by omega)
    have c0 : (3 + 3 * s2.1 7513).toNatClampNeg = 3 + 3 * V := by rw [e3, n_cl (p := 3 + 3 * V) (by omega)]
    refine Tm_suc (fun k => by rw [f_X11_view]) ?_
    refine Tm_chk i8 (Tm_chk i8 (Tm_chk i0 ?_))
    show Tm (fun k => f_X11_view k 4 (lI (lI lZ 1 (nI sz)) 3 (3 + 3 * s2.1 7513)) (uA (uA (uA s2 64 (s2.1 7513).toNatClampNeg (nI sz)) 65 (s2.1 7513).toNatClampNeg (vp_nar .boolean 0)) 67 (3 + 3 * s2.1 7513).toNatClampNeg (-2147483648))) _
    rw [c8i, c0, e3]
    generalize hs3 : uA (uA (uA s2 64 V (nI sz)) 65 V (vp_nar .boolean 0)) 67 (3 + 3 * V) (-2147483648) = s3
    have g1 : s3.1 = s2.1 ∧ s3.2.1 = s2.2.1 ∧ s3.2.2.2 = s2.2.2.2 := by rw [← hs3]; exact ⟨rfl, rfl, rfl⟩
    have g2 : ∀ k, ¬ (k = 64 ∨ k = 65 ∨ k = 67) → s3.2.2.1 k = s2.2.2.1 k := fun k hk => by rw [← hs3, uA_k (by omega), uA_k (by omega), uA_k (by omega)]
    have g64 : s3.2.2.1 64 = upd (s2.2.2.1 64) V (nI sz) := by rw [← hs3, uA_k (by decide), uA_k (by decide), uA_r]
    have g67 : s3.2.2.1 67 = upd (s2.2.2.1 67) (3 + 3 * V) (-2147483648) := by rw [← hs3, uA_r, uA_k (by decide), uA_k (by decide)]
    clear hs3
    refine Tm_suc (fun k => by rw [f_X11_view]) ?_
    refine Tm_chk (show ¬ (nI (3 + 3 * V) + nI 1 < 0 ∨ 27 ≤ (nI (3 + 3 * V) + nI 1).toNatClampNeg) from i27 1 (by omega)) (Tm_chk (show ¬ (nI (3 + 3 * V) + nI 2 < 0 ∨ 27 ≤ (nI (3 + 3 * V) + nI 2).toNatClampNeg) from i27 2 (by omega)) ?_)
    show Tm (fun k => f_X11_view k 5 (lI (lI lZ 1 (nI sz)) 3 (nI (3 + 3 * V))) (uI (uA (uA s3 67 (nI (3 + 3 * V) + nI 1).toNatClampNeg (-2147483648)) 67 (nI (3 + 3 * V) + nI 2).toNatClampNeg (-2147483648)) 7513 (s3.1 7513 + 1))) _
    rw [c27 1 (by omega), c27 2 (by omega)]
    generalize hs4 : uI (uA (uA s3 67 (3 + 3 * V + 1) (-2147483648)) 67 (3 + 3 * V + 2) (-2147483648)) 7513 (s3.1 7513 + 1) = s4
    have k1 : ∀ i, ¬ i = 7513 → s4.1 i = s3.1 i := fun i hi => by rw [← hs4, uI_o hi]; rfl
    have k13 : s4.1 7513 = σ.1 7513 + 1 := by rw [← hs4, uI_s, g1.1, f13]
    have k2 : s4.2.1 = s3.2.1 ∧ s4.2.2.2 = s3.2.2.2 := by rw [← hs4]; exact ⟨rfl, rfl⟩
    have k3 : ∀ k, ¬ k = 67 → s4.2.2.1 k = s3.2.2.1 k := fun k hk => by
      rw [← hs4]
      show (uA (uA s3 67 (3 + 3 * V + 1) (-2147483648)) 67 (3 + 3 * V + 2) (-2147483648)).2.2.1 k = _
      rw [uA_k hk, uA_k hk]
    have k67 : s4.2.2.1 67 = upd (upd (s3.2.2.1 67) (3 + 3 * V + 1) (-2147483648)) (3 + 3 * V + 2) (-2147483648) := by
      rw [← hs4]
      show (uA (uA s3 67 (3 + 3 * V + 1) (-2147483648)) 67 (3 + 3 * V + 2) (-2147483648)).2.2.1 67 = _
      rw [uA_r, uA_r]
    clear hs4
    have eV1 : s4.1 7513 = nI (V + 1) := by rw [k13, eV, n_add1]
    have uV1 : uN (s4.1 7513) = V + 1 := by rw [eV1, u_n (by omega)]
    have vr4 : VwZ r1.2.1 s4 := ⟨fun j hj => by rw [k1 j (by omega), g1.1]; exact vr2.1 j hj, by rw [k2.1, g1.2.1]; exact vr2.2.1, fun k hk => by rw [k3 k (by omega), g2 k hk]; exact vr2.2.2.1 k hk, by rw [k2.2, g1.2.2]; exact vr2.2.2.2⟩
    have f374 : s4.1 3701 = 0 := by rw [k1 3701 (by decide), g1.1]; exact f37
    have ph4 := Ph_s (σ := s2) (σ' := s4) (by rw [k2.2, g1.2.2])
    have r67 : s2.2.2.1 67 = σ.2.2.1 67 := (r2 67).trans (rx.2.1.1 67 (by omega))
    have r64 : s2.2.2.1 64 = σ.2.2.1 64 := (r2 64).trans (rx.2.1.1 64 (by omega))
    have h67 : ∀ g : Nat → Prop, (∀ i, i < 27 → Gv g (σ.2.2.1 67 i)) → ∀ i, i < 27 → Gv g (s4.2.2.1 67 i) := fun g hg i hi => by
      rw [k67, g67, r67]
      by_cases a1 : i = 3 + 3 * V + 2
      · rw [a1, upd_same]; exact Gv_om g
      · rw [upd_other a1]
        by_cases a2 : i = 3 + 3 * V + 1
        · rw [a2, upd_same]; exact Gv_om g
        · rw [upd_other a2]
          by_cases a3 : i = 3 + 3 * V
          · rw [a3, upd_same]; exact Gv_om g
          · rw [upd_other a3]; exact hg i hi
    obtain ⟨ec, e2⟩ := vr_cd rx vr4
    have cd4 : CdL (sCur σ) (sz + cs.length + 1) s4 := ⟨by rw [vr4.1 _ (by omega)]; exact cd2.1, by rw [e2]; exact cd2.2.1, by rw [e2, vr_n vr4]; exact cd2.2.2⟩
    have l36 : sz + cs.length + 1 ≤ 36864 := by omega
    obtain ⟨D, pgt', hD, dd, _⟩ := Un_v (C := cdr (sCur σ) s4) pgt nu40 (Nat.zero_le _) sg (by rw [eN]; exact l36) (by rw [eN]; exact fun i hi => (ec i).trans ((rx.2.2.2.2.2.1 i hi).1.trans (hc i hi))) (by rw [eN]; exact fun i hi => (ec _).trans (y3 i hi)) (by rw [eN]; exact (ec _).trans y4)
    rw [eN] at pgt' hD
    have en2 := en.2
    have pg4 : PgI E.1 E.2.2.2.2.2.2 (sCur σ) (sz + cs.length + 1) (uN (s4.1 7513)) (mkc cc (cdr (sCur σ) s4) (sz + cs.length + 1) D) s4 := by
      refine ⟨E, nu, vg, e0, MD, ⟨rfl, rfl⟩, ⟨vr_tb rx vr4 z11 tb, de⟩, ⟨vr_ut rx vr4 nu40 ut, (vr_18 rx vr4).trans r18⟩, pgt', ⟨rfl, fun i hi => rfl⟩, ⟨?_, by omega, dd _ _ en2.2⟩, fun i hi => ?_⟩
      · rw [vr4.1 _ (by omega), rx.1.1 _ (by omega)]
        exact en.1
      · rw [uV1] at hi
        rw [k3 64 (by decide), g64, r64]
        by_cases a : i = V
        · rw [a, upd_same]
          exact ⟨sz, RK, rfl, by omega, Nat.le_refl _, hD⟩
        · rw [upd_other a]
          obtain ⟨pc, rk, v1, v2, v3, v4⟩ := vw i (by omega)
          exact ⟨pc, rk, v1, by omega, v3, dd _ _ v4⟩
    have ic4 : IC XE (j + 1) s4 := IC_cl (c' := mkc cc (cdr (sCur σ) s4) (sz + cs.length + 1) D) t3 t4 p1 p2 p4 p6 q1 q2 m1 m2 k0 hX k4 hj rx vr4 f374 h67 (by rw [uV1]; omega) cd4 (by omega) rfl dd pg4
    refine Tm_suc (fun k => by rw [f_X11_view]) ?_
    refine Tm_some ⟨Or.inl rfl, by show r1.2.2.1 + 0 + PhC s4 ≤ _; omega, by show r1.2.2.2 + 0 + PhS s4 ≤ _; omega, qq, kq, hq, ?_, ⟨fun _ => ⟨q42, ?_⟩, fun z => absurd (show (0 : Nat) = 2 from z) (by decide), fun z => absurd (show (0 : Nat) = 4 from z) (by decide)⟩, Or.inl ?_⟩
    rotate_left
    · show s4.1 7513 - 1 = _
      rw [k13, q73.2.1, ← e13, eV, n_add1, n_sub1 (by omega)]
    · show s4.1 7512 = qq.2.1 11
      rw [q73.2.2, k1 7512 (by decide), g1.1, f12, y6]
    exact ⟨XE, ic4, w1, tRel_0 f374 q4, by rw [vr4.1 7510 (by decide), ff 7510 (by omega), w2]; exact e10, by rw [vr4.1 7511 (by decide), ff 7511 (by omega), w3]; exact e11, by rw [k13, q73.1, e13]⟩
theorem hp_view (hj : j < 512) : cPr j (fun x => x = 0 ∨ x = 2 ∨ x = 4) (fun σ k => f_X11_view k 0 lZ σ) (fun τ k => x_view k 0 (fun _ => 0) τ) (fun _ _ => True) := cPr_T (cPq_R (hp_viewE hj))
end DZN
end JnS565
section JnS566
/-! The house behind the machine and behind showing (made by rs566.py). -/
section DZO
variable {σ s s1 : CS} {b : Bool} {N M n sz sz' V j : Nat} {c c' : Ct} {gl : List Gn} {pr : Nat → Nat} {XE : XEt} {L : LV} {x : Int32} {g : Nat → Prop}
/-- what machine and showing leave of the house -/
def HfN (σ s : CS) : Prop := (∀ i, 3700 ≤ i → ¬ (i = 7511 ∨ i = 7517 ∨ i = 7518 ∨ i = 7519) → s.1 i = σ.1 i) ∧ (∀ k, k = 38 ∨ (41 ≤ k ∧ k ≤ 64) ∨ (69 ≤ k ∧ k ≤ 74) → s.2.2.1 k = σ.2.2.1 k ∧ sN s k = sN σ k) ∧ s.2.2.2.1 = σ.2.2.2.1 ∧ (sCur s = sCur σ ∧ sOt s = sOt σ ∧ sKd s = sKd σ)
theorem HfN_sw (h : SwF σ s) : HfN σ s := by
  obtain ⟨k1, k2, k3, k4, k5, k6⟩ := SwF_M h
  exact ⟨fun i h1 h2 => k1 i h1 (by omega), fun k hk => k2 k (by omega), h.2.1.2.2, k3, k4, k6⟩
theorem HfN_9 : HfN σ (uI σ 7519 x) := ⟨fun i _ h2 => uI_o (by omega), fun _ _ => ⟨rfl, rfl⟩, rfl, ⟨rfl, rfl, rfl⟩⟩
theorem HfN_t {s2 : CS} (a : HfN σ s) (d : HfN s s2) : HfN σ s2 := ⟨fun i h1 h2 => (d.1 i h1 h2).trans (a.1 i h1 h2), fun k hk => ⟨(d.2.1 k hk).1.trans (a.2.1 k hk).1, (d.2.1 k hk).2.trans (a.2.1 k hk).2⟩, d.2.2.1.trans a.2.2.1, ⟨d.2.2.2.1.trans a.2.2.2.1, d.2.2.2.2.1.trans a.2.2.2.2.1, d.2.2.2.2.2.trans a.2.2.2.2.2⟩⟩
theorem HfN_m (h : MFr σ s) : HfN σ s := by
  obtain ⟨h1, h2, h3, h4, h5⟩ := h
  have e5 : s.2.2.2.2.2.1 = σ.2.2.2.2.2.1 := h5
  refine ⟨fun i a b => h1 i (by omega), fun k hk => h3 k (fun z => by unfold rwM at z; omega), h4, ⟨?_, ?_, ?_⟩⟩
  · show s.2.2.2.2.2.1.1 = _; rw [e5]
  · show s.2.2.2.2.2.1.2.1 = _; rw [e5]
  · show s.2.2.2.2.2.1.2.2.2.2 = _; rw [e5]
theorem HfN_cM (h : HfN σ s) : cM c b s = cM c b σ := by
  have p13 := pR_13 b
  have p0 := pR0_c (sKd σ b)
  have kd := h.2.2.2.2.2
  unfold cM
  show (s.2.2.1 (pR0 (sKd s b)), sN s (pR0 (sKd s b)), (fun u => uN (s.2.2.1 (pR13 b) u)), (fun u => uN (s.2.2.1 (pR14 b) u)), (fun u => uN (s.2.2.1 (pR18 b) u)), tcK c, tcD c) = _
  rw [kd, (h.2.1 (pR0 (sKd σ b)) (by omega)).1, (h.2.1 (pR0 (sKd σ b)) (by omega)).2, (h.2.1 (pR13 b) (by omega)).1, (h.2.1 (pR14 b) (by omega)).1, (h.2.1 (pR18 b) (by omega)).1]
theorem HfN_CdL (h : HfN σ s) (cd : CdL b sz σ) : CdL b sz s := by
  have p0 := pR0_c (sKd σ b)
  have kd := h.2.2.2.2.2
  have fc := fP_c b 1
  have en : cdn b s = cdn b σ := by
    show sN s (pR0 (sKd s b)) = sN σ (pR0 (sKd σ b))
    rw [kd, (h.2.1 (pR0 (sKd σ b)) (by omega)).2]
  exact ⟨(h.1 _ (by omega) (by omega)).trans cd.1, by rw [en]; exact cd.2.1, by rw [en, (h.2.1 43 (by omega)).2, (h.2.1 51 (by omega)).2]; exact cd.2.2⟩
theorem HfN_pg (h : HfN σ s) (p : PgI gl pr b sz V c σ) : PgI gl pr b sz V c s := by
  have p13 := pR_13 b
  have p0 := pR0_c (sKd σ b)
  have kd := h.2.2.2.2.2
  have fc := fP_c b 2
  have fc11 := fP_c b 11
  obtain ⟨E, nu, vg, e0, MD, e, ⟨tb, de⟩, ⟨ut, r18⟩, pg, ⟨eN, cd⟩, ⟨en1, en2, en3⟩, vw⟩ := p
  have rr : ∀ k, 41 ≤ k ∧ k ≤ 64 ∨ 69 ≤ k ∧ k ≤ 74 → s.2.2.1 k = σ.2.2.1 k := fun k hk => (h.2.1 k (by omega)).1
  refine ⟨E, nu, vg, e0, MD, e, ⟨TbR_s tb (h.1 _ (by omega) (by omega)) (by rw [h.2.2.1]) (by rw [h.2.2.1]) (rr _ (by omega)) (rr _ (by omega)) (rr _ (by omega)) (rr _ (by omega)), de⟩, ⟨fun i hi => ?_, by rw [rr _ (by omega)]; exact r18⟩, pg, ⟨eN, fun i hi => ?_⟩, ⟨(h.1 _ (by omega) (by omega)).trans en1, en2, en3⟩, fun i hi => by rw [rr 64 (by omega)]; exact vw i hi⟩
  · rw [rr (pR13 b) (by omega), rr (pR14 b) (by omega), rr (pR18 b) (by omega), rr (pR15 b) (by omega)]
    exact ut i hi
  · rw [← cd i hi]
    show s.2.2.1 (pR0 (sKd s b)) i = σ.2.2.1 (pR0 (sKd σ b)) i
    rw [kd, rr _ (by omega)]
theorem IC_runN (h : IC XE j σ) (hj : j < 512) (h10 : ¬ σ.1 7510 = 0) (fr : HfN σ s) (hp : sPr s = some (sCur σ)) (q17 : uN (s.1 7517) ≤ sN s 66) (q18 : uN (s.1 7518) ≤ 2) (hm : ∃ (sz : Nat) (gl : List Gn) (pr : Nat → Nat) (c : Ct), XE = some (gl, pr) ∧ PgI gl pr (sCur σ) sz (uN (σ.1 7513)) c σ ∧ CdL (sCur σ) sz σ ∧ Mst (cM c (sCur σ) σ) s ∧ uN (s.1 1903) ≤ 20000 * (j + 1)) : IC XE (j + 1) s := by
  obtain ⟨n, sz, ⟨t1, t2, t3, t4⟩, ⟨p1, p2, p3, p4, p5, p6⟩, ⟨q1, q2, q3⟩, ⟨m1, m2⟩, pp⟩ := h
  obtain ⟨sz', gl, pr, c, k2, k3, y3, ms, bg⟩ := hm
  have k0 := h10
  obtain rfl : sz' = sz := by
    have w := u_eq.1 (y3.1.symm.trans p5.1)
    have l1 := cdn_le y3
    have l2 := y3.2.1
    have l3 := p5.2.1
    rw [u_n (by omega), u_n (by omega)] at w
    exact w
  have ff := fr.1
  have sc := fr.2.2.2.1
  refine ⟨n, sz', ⟨?_, (ff 3701 (by decide) (by decide)).trans t2, by omega, by rw [fr.2.2.1]; exact t4⟩, ⟨by rw [sc, fr.2.2.2.2.1]; exact p1, fun d => ?_, by rw [(fr.2.1 41 (by omega)).2]; exact p3, by rw [(fr.2.1 42 (by omega)).2]; exact p4, by rw [sc]; exact HfN_CdL fr p5, by omega⟩, ⟨q17, q18, by rw [ff 7513 (by decide) (by decide)]; exact q3⟩, ⟨Hmx_of ms, ms.1⟩, ?_⟩
  · unfold tOK at t1 ⊢
    rw [ff 3701 (by decide) (by decide), (fr.2.1 38 (by omega)).1, (fr.2.1 38 (by omega)).2]
    exact t1
  · have p13 := pR_13 d
    exact ⟨by rw [(fr.2.1 _ (by omega)).1]; exact (p2 d).1, by rw [(fr.2.1 _ (by omega)).1]; exact (p2 d).2⟩
  · rw [ff 7510 (by decide) (by decide), ff 7513 (by decide) (by decide), sc]
    exact Or.inr ⟨k0, gl, pr, c, k2, HfN_pg fr k3, fun _ => ⟨hp, by rw [HfN_cM fr]; exact ms, bg⟩⟩
theorem IC_cl0 (t3 : n ≤ 20 * j) (t4 : σ.2.2.2.1 39 = lxW) (p1 : sOt σ = !(sCur σ)) (p2 : ∀ b, σ.2.2.1 (pR18 b) 41 = 0 ∧ σ.2.2.1 (pR14 b) 41 = 0) (p4 : sN σ 42 = 64 ∨ sN σ 42 = 16384) (p6 : 2 * sz + 7 * (n + 20 * (512 - j)) ≤ 71682) (q1 : uN (σ.1 7517) ≤ sN σ 66) (q2 : uN (σ.1 7518) ≤ 2) (m1 : Hmx σ) (m2 : BY False σ) (k0 : ¬ σ.1 7510 = 0) (hX : XE = some (gl, pr)) (k4 : ¬ σ.1 7511 = 0 → sPr σ = some (sCur σ) ∧ Mst (cM c (sCur σ) σ) σ ∧ uN (σ.1 1903) ≤ 20000 * j) (hj : j < 512) (rx : RxF (sCur σ) N M n σ s1) (vr : VwZ s1 s) (e37 : s.1 3701 = 0) (h67 : ∀ g : Nat → Prop, (∀ i, i < 27 → Gv g (σ.2.2.1 67 i)) → ∀ i, i < 27 → Gv g (s.2.2.1 67 i)) (v8 : uN (s.1 7513) ≤ 8) (cd' : CdL (sCur σ) sz' s) (bd : 2 * sz' ≤ 2 * sz + 7 * n) (kk : tcK c' = tcK c) (dd : ∀ p x, tcD c p = some x → tcD c' p = some x) (pg' : PgI gl pr (sCur σ) sz' (uN (s.1 7513)) c' s) : IC XE j s := by
  have fc1 := fP_c (sCur σ) 1
  have fc11 := fP_c (sCur σ) 11
  have fc19 := fP_c (sCur σ) 19
  have p13 := pR_13 (sCur σ)
  have px := vr_x rx vr
  have by0 := vr_by rx vr m2
  have sc : sCur s = sCur σ := by show s.2.2.2.2.2.1.1 = _; rw [vr.2.2.2]; exact rx.2.2.1.1.1
  have so : sOt s = sOt σ := by show s.2.2.2.2.2.1.2.1 = _; rw [vr.2.2.2]; exact rx.2.2.1.1.2.1
  have sp : sPr s = sPr σ := by show s.2.2.2.2.2.1.2.2.1 = _; rw [vr.2.2.2]; exact rx.2.2.1.1.2.2
  have ff : ∀ i, ¬ (i = 404 ∨ (3701 ≤ i ∧ i ≤ 3704) ∨ (4003 ≤ i ∧ i ≤ 4020) ∨ (5000 ≤ i ∧ i ≤ 5019) ∨ (6800 ≤ i ∧ i ≤ 6819) ∨ i = 7512 ∨ i = 7513 ∨ i = 7519) → s.1 i = σ.1 i := fun i hi => (vr.1 i (by omega)).trans (rx.1.1 i (by omega))
  have nn := vr_n vr
  have e10 : s.1 7510 = σ.1 7510 := ff 7510 (by decide)
  have e11 : s.1 7511 = σ.1 7511 := ff 7511 (by decide)
  have hm : Hmx s ∧ (¬ s.1 7511 = 0 → sPr s = some (sCur s) ∧ Mst (cM c' (sCur s) s) s ∧ uN (s.1 1903) ≤ 20000 * j) := by
    by_cases c11 : σ.1 7511 = 0
    · obtain ⟨g, l, t, K4, hb⟩ := m1
      exact ⟨⟨g, l, t, K4, Hmb_xx px (h67 g (fun i hi => (hb.2.2.2.1 i hi).2.1 rfl)) hb⟩, fun z => absurd (e11.trans c11) z⟩
    · obtain ⟨y1, y2, y3⟩ := k4 c11
      obtain ⟨g, l, t, mg⟩ := Mst_G y2
      have mg2 := MsG_xx (vr_ct rx vr (p2 _).1 (p2 _).2 kk dd) px (ct_M (c := c') (sp.trans y1)) by0 (h67 g (MsG_v mg).2) mg
      have ms2 := Mst_of mg2
      have e9 : s.1 1903 = σ.1 1903 := ff 1903 (by decide)
      exact ⟨Hmx_of ms2, fun _ => ⟨by rw [sc]; exact sp.trans y1, by rw [sc]; exact ms2, by rw [e9]; exact y3⟩⟩
  have lx : s.2.2.2.1 39 = lxW := by rw [vr.2.2.2, rx.2.1.2.2 39 (by omega)]; exact t4
  refine ⟨0, sz', ⟨vr_ok rx vr e37, e37, Nat.zero_le _, lx⟩, ⟨by rw [sc, so]; exact p1, fun d => vr_0 rx vr p2 d, by rw [nn]; exact rx.2.2.2.2.2.2.2.1, by rw [nn, rx.2.1.2.1 42 (by omega)]; exact p4, by rw [sc]; exact cd', by omega⟩, ⟨by rw [ff 7517 (by decide), nn, rx.2.1.2.1 66 (by omega)]; exact q1, by rw [ff 7518 (by decide)]; exact q2, v8⟩, ⟨hm.1, by0⟩, Or.inr ⟨by rw [e10]; exact k0, gl, pr, c', hX, by rw [sc]; exact pg', hm.2⟩⟩
end DZO
end JnS566
section JnS567
/-! The house: work, on both sides. -/
section DZP
variable {σ s s1 : CS} {τ : MS} {b : Bool} {N M n sz sz' V j : Nat} {c c' : Ct} {gl : List Gn} {pr : Nat → Nat} {XE : XEt}
theorem rj_workN {J : Nat → Int64} {L : Nat → Int32} (h : RfJ XE j τ) (c : τ.1 112 = 0) : Tm (fun k => x_work k 0 L J τ) (fun r => RfJ XE (j + 1) r.2 ∧ KpT τ r.2 ∧ r.2.1 11 = τ.1 11) := by
  refine Tm_suc (fun k => by rw [x_work]) ?_
  refine Tm_ite (fun _ => ?_) (fun z => absurd c z)
  refine Tm_suc (fun k => by rw [x_work]) ?_
  refine Tm_suc (fun k => by rw [x_work]) ?_
  refine Tm_ob (s_good _ _) (fun r hr => ?_)
  rw [hr]
  refine Tm_ite (fun _ => ?_) (fun z => absurd rfl z)
  exact Tm_some ⟨RfJ_2 h, KpT_2, rfl⟩
def WkQ (j : Nat) (σ : CS) (τ : MS) (r : RS) : Prop := (r.1.1 = 0 ∨ r.1.1 = 2) ∧ r.2.2.1 + PhC r.2.1 ≤ PhC σ + 2 ∧ r.2.2.2 + PhS r.2.1 ≤ PhS σ + 12 ∧ Tm (fun k => x_work k 0 (fun _ => 0) (fun _ => 0) τ) (fun q => IB (j + 1) r.2.1 q.2 ∧ True ∧ FK σ τ r q)
theorem hp_workE (hj : j < 512) : cPq j (fun x => x = 0 ∨ x = 2) (fun σ k => f_X11_work k 0 lZ σ) (fun τ k => x_work k 0 (fun _ => 0) (fun _ => 0) τ) (fun _ _ => True) FK := by
  intro σ τ h
  have h0 := h
  obtain ⟨XE, ic, rf, tr, e10, e11, e13⟩ := h
  show Tm (fun k => f_X11_work k 0 lZ σ) (WkQ j σ τ)
  refine Tm_suc (fun k => by rw [f_X11_work]) ?_
  refine Tm_wr (fun z => ?_) (fun nz => ?_)
  · exact ⟨Or.inr rfl, by show 1 + PhC σ ≤ _; omega, by show 6 + PhS σ ≤ _; omega, IB_k3 (gM := fun k => x_work k 0 (fun _ => 0) (fun _ => 0) τ) h0 hj (fun XE rf => Tm_mono (rj_workN rf (e11.1 z)) (fun r w => ⟨w.1, w.2.1, trivial, Or.inr ⟨rfl, w.2.2⟩⟩))⟩
  have n112 : ¬ τ.1 112 = 0 := fun z => nz (e11.2 z)
  obtain ⟨n, sz, ⟨t1, t2, t3, t4⟩, ⟨p1, p2, p3, p4, p5, p6⟩, ⟨q1, q2, q3⟩, ⟨m1, m2⟩, pp⟩ := ic
  obtain ⟨k0, gl, pr, cc, hX, pg, k4⟩ := pp.resolve_left (fun z => nz z.2.1)
  obtain ⟨qq, kq, hq, w1, ⟨w2, w3, w4⟩, _, w5⟩ := rj_work (L := fun _ => 0) (J := fun _ => 0) rf
  obtain ⟨q4, n', g, bt, x, tp, eg, hG, hv⟩ := w5 n112
  obtain rfl : n = n' := (nI_inj (tp.1.1.symm.trans (tr.1.symm.trans t2)) (by have := tp.1.2; omega) (by omega)).symm
  rw [hX] at eg
  cases eg
  obtain ⟨y1, y2, y3⟩ := k4 nz
  obtain ⟨E, nu, vg, e0, MD, ⟨e1, e2⟩, ⟨tb, de⟩, ⟨ut, r18⟩, pgt, ⟨eN, hc⟩, en, vw⟩ := pg
  subst e1
  subst e2
  have fn := fP_ns (sCur σ)
  have fc1 := fP_c (sCur σ) 1
  have fc2 := fP_c (sCur σ) 2
  have fc11 := fP_c (sCur σ) 11
  have fc19 := fP_c (sCur σ) 19
  have p13 := pR_13 (sCur σ)
  have nu40 := de.2.1.2.2.1
  have vg60 := de.2.1.2.1
  have re := c_readExp (b := sCur σ) (N := sz) (ρ := τ) (al := 1) (L := lI (lB lZ 1 (sCur σ)) 2 1) t1 t2 (by omega) t4 tr p5 p3 tb de pgt.2.2 ut (by omega) rfl rfl (by omega) hG
  refine Tm_oxc re (fun r z => z.1) (fun r1 z1 => ?_)
  obtain ⟨z1, z2, rx, z11, zn, zy⟩ := z1
  rw [Nat.zero_add, Nat.zero_add] at z2
  show Tm (fun k => f_X11_work k 1 (lI (lI lZ 1 (σ.1 (fP (sCur σ) 1))) 2 r1.1.2) (uI (uI (uI r1.2.1 3701 0) 7512 ((uI r1.2.1 3701 0).1 4006)) 7519 0)) _
  rw [p5.1]
  generalize hs2 : uI (uI (uI r1.2.1 3701 0) 7512 ((uI r1.2.1 3701 0).1 4006)) 7519 0 = s2
  have vr2 : VwZ r1.2.1 s2 := by
    rw [← hs2]
    exact ⟨fun j hj => by rw [uI_o (by omega), uI_o (by omega), uI_o (by omega)], rfl, fun _ _ => rfl, rfl⟩
  have r2 : ∀ k, s2.2.2.1 k = r1.2.1.2.2.1 k := fun k => by rw [← hs2]; rfl
  have f37 : s2.1 3701 = 0 := by rw [← hs2, uI_o (by decide), uI_o (by decide), uI_s]
  have f13 : s2.1 7513 = σ.1 7513 := by
    rw [← hs2, uI_o (by decide), uI_o (by decide), uI_o (by decide)]
    exact rx.1.1 7513 (by omega)
  have f12 : s2.1 7512 = r1.2.1.1 4006 := by rw [← hs2, uI_o (by decide), uI_s, uI_o (by decide)]
  have ph2 := Ph_s (σ := r1.2.1) (σ' := s2) (by rw [← hs2]; rfl)
  clear hs2
  have ff : ∀ i, i = 7510 ∨ i = 7511 → r1.2.1.1 i = σ.1 i := fun i hi => rx.1.1 i (by omega)
  have r64 : s2.2.2.1 64 = σ.2.2.1 64 := (r2 64).trans (rx.2.1.1 64 (by omega))
  have r67 : s2.2.2.1 67 = σ.2.2.1 67 := (r2 67).trans (rx.2.1.1 67 (by omega))
  -- the same with the code's end as before
  have rx' : RxF (sCur σ) sz (tbE 0 E).length n σ (uI r1.2.1 (fP (sCur σ) 1) (nI sz)) := RxF_u rx (fun j hj => uI_o (by omega)) rfl
  have vr' : VwZ (uI r1.2.1 (fP (sCur σ) 1) (nI sz)) (uI s2 (fP (sCur σ) 1) (nI sz)) := by
    refine ⟨fun j hj => ?_, vr2.2.1, vr2.2.2.1, vr2.2.2.2⟩
    by_cases e : j = fP (sCur σ) 1
    · rw [e, uI_s, uI_s]
    · rw [uI_o e, uI_o e]; exact vr2.1 j hj
  have z11' : (uI r1.2.1 (fP (sCur σ) 1) (nI sz)).1 (fP (sCur σ) 11) = nI (tbE 0 E).length := by rw [uI_o (by omega)]; exact z11
  have f37' : (uI s2 (fP (sCur σ) 1) (nI sz)).1 3701 = 0 := by rw [uI_o (by omega)]; exact f37
  have f13' : (uI s2 (fP (sCur σ) 1) (nI sz)).1 7513 = σ.1 7513 := by rw [uI_o (by omega)]; exact f13
  have pg' : PgI E.1 E.2.2.2.2.2.2 (sCur σ) sz (uN ((uI s2 (fP (sCur σ) 1) (nI sz)).1 7513)) cc (uI s2 (fP (sCur σ) 1) (nI sz)) := vr_pg rx' vr' z11' r64 tb de ut r18 pgt eN hc en (by rw [f13']; exact vw)
  have cd' : CdL (sCur σ) sz (uI s2 (fP (sCur σ) 1) (nI sz)) := by
    obtain ⟨_, e2⟩ := vr_cd rx' vr'
    exact ⟨uI_s, by rw [e2]; exact rx'.2.2.2.2.2.2.1.1, by rw [e2, vr_n vr']; exact rx'.2.2.2.2.2.2.1.2⟩
  -- the reference
  have fin : ∀ r : RS, r.1.1 = 0 → IC XE (j + 1) r.2.1 → r.2.1.1 3701 = 0 → (∀ i, i = 7510 ∨ i = 7511 ∨ i = 7513 → r.2.1.1 i = σ.1 i) → r.2.1.1 7512 = qq.2.1 11 → r.2.2.1 + PhC r.2.1 ≤ PhC σ + 2 → r.2.2.2 + PhS r.2.1 ≤ PhS σ + 12 → WkQ j σ τ r := fun r a1 a2 a3 a4 a7 a5 a6 =>
    ⟨Or.inl a1, a5, a6, qq, kq, hq, ⟨XE, a2, w1, tRel_0 a3 q4, by rw [a4 7510 (by omega), w3]; exact e10, by rw [a4 7511 (by omega), w4]; exact e11, by rw [a4 7513 (by omega), w2]; exact e13⟩, trivial, Or.inl a7⟩
  cases x with
  | inl yf =>
    obtain ⟨⟨u1, u2⟩, u6, _⟩ := zn yf rfl
    refine Tm_suc (fun k => by rw [f_X11_work]) ?_
    refine Tm_yes (lI_same.trans u1) ?_
    have cd2 : CdL (sCur σ) sz s2 := by
      obtain ⟨_, e2⟩ := vr_cd rx vr2
      exact ⟨by rw [vr2.1 _ (by omega)]; exact u2, by rw [e2]; exact rx.2.2.2.2.2.2.1.1, by rw [e2, vr_n vr2]; exact rx.2.2.2.2.2.2.1.2⟩
    have pg2 : PgI E.1 E.2.2.2.2.2.2 (sCur σ) sz (uN (s2.1 7513)) cc s2 := vr_pg rx vr2 z11 r64 tb de ut r18 pgt eN hc en (by rw [f13]; exact vw)
    have ic2 : IC XE (j + 1) s2 := IC_cl t3 t4 p1 p2 p4 p6 q1 q2 m1 m2 k0 hX k4 hj rx vr2 f37 (fun g hg => by rw [r67]; exact hg) (by rw [f13]; exact q3) cd2 (by omega) rfl (fun _ _ z => z) pg2
    refine Tm_some (fin _ rfl ic2 f37 (fun i hi => ?_) (show s2.1 7512 = qq.2.1 11 by rw [f12, u6, (hv.1 _ rfl).2]) (by show r1.2.2.1 + 0 + PhC s2 ≤ _; omega) (by show r1.2.2.2 + 0 + PhS s2 ≤ _; omega))
    show s2.1 i = σ.1 i
    rcases hi with rfl | rfl | rfl
    · rw [vr2.1 7510 (by decide)]; exact ff 7510 (by omega)
    · rw [vr2.1 7511 (by decide)]; exact ff 7511 (by omega)
    · exact f13
  | inr t =>
    obtain ⟨⟨u1, u6⟩, cs, cd2, u3, u4, sg, ln⟩ := zy t rfl
    refine Tm_suc (fun k => by rw [f_X11_work]) ?_
    refine Tm_no (by rw [lI_same, u1]; decide) ?_
    refine Tm_suc (fun k => by rw [f_X11_work]) ?_
    have icS : IC XE j (uI s2 (fP (sCur σ) 1) (nI sz)) := IC_cl0 t3 t4 p1 p2 p4 p6 q1 q2 m1 m2 k0 hX k4 hj rx' vr' f37' (fun g hg => by rw [show (uI s2 (fP (sCur σ) 1) (nI sz)).2.2.1 67 = σ.2.2.1 67 from r67]; exact hg) (by rw [f13']; exact q3) cd' (by omega) rfl (fun _ _ z => z) pg'
    obtain ⟨ec, e2⟩ := vr_cd rx vr2
    have l36 : sz + cs.length + 1 ≤ 36864 := by omega
    obtain ⟨D, pgt', hD, dd, dd2⟩ := Un_v (C := cdr (sCur σ) s2) pgt nu40 (Nat.zero_le _) sg (by rw [eN]; exact l36) (by rw [eN]; exact fun i hi => (ec i).trans ((rx.2.2.2.2.2.1 i hi).1.trans (hc i hi))) (by rw [eN]; exact fun i hi => (ec _).trans (u3 i hi)) (by rw [eN]; exact (ec _).trans u4)
    rw [eN] at pgt' hD dd2
    have z0 := vr_0 rx vr2 p2 (sCur σ)
    have ck0 : CkA (cM cc (sCur σ) s2) := ck_M (σ := uI s2 (fP (sCur σ) 1) (nI sz)) pg' cd' z0.1
    obtain ⟨ck, up, dn⟩ := ck_R (C := cdr (sCur σ) s2) (M := sz + cs.length + 1) (D := D) ck0 pgt eN (vr_ut rx vr2 nu40 ut) ((vr_18 rx vr2).trans r18) vg60 nu40 pgt' (fun i hi => rfl) (by rw [e2]; exact cd2.2.1) z0.1 dd dd2
    have px := vr_x rx vr2
    have by2 := vr_by rx vr2 m2
    have sp2 : sPr s2 = sPr σ := by show s2.2.2.2.2.2.1.2.2.1 = _; rw [vr2.2.2.2]; exact rx.2.2.1.1.2.2
    have sc2 : sCur s2 = sCur σ := by show s2.2.2.2.2.2.1.1 = _; rw [vr2.2.2.2]; exact rx.2.2.1.1.1
    obtain ⟨g0, l0, t0, mg⟩ := Mst_G y2
    have mg2 := MsG_xx (vr_ct (c := cc) (c' := mkc cc (cdr (sCur σ) s2) (sz + cs.length + 1) (rsD sz D)) rx vr2 (p2 _).1 (p2 _).2 rfl up) px (ct_M (sp2.trans y1)) by2 (by rw [r67]; exact (MsG_v mg).2) mg
    have env : EnV (cM (mkc cc (cdr (sCur σ) s2) (sz + cs.length + 1) (rsD sz D)) (sCur σ) s2) (uN (nI sz)) := by
      refine ⟨by show uN (s2.2.2.1 (pR18 (sCur σ)) 41) = 0; rw [z0.1]; rfl, RK, Nat.le_refl _, ?_⟩
      rw [u_n (by omega)]
      exact rsD_2 hD (Or.inl rfl)
    refine Tm_oxc (c_evaluate (L := lI lZ 1 (nI sz)) (Mst_of mg2) ck env) (fun r z => z.1) (fun r3 z3 => ?_)
    obtain ⟨v1, v2, v3, v4, g, l, t', mg3, gw⟩ := z3
    have hn3 := HfN_m v4
    have sc3 : sCur r3.2.1 = sCur σ := hn3.2.2.2.1.trans sc2
    show Tm (fun k => op (y_X11_isError k 0 (lI lZ 0 r3.1.2) (uI (uI r3.2.1 (fP (sCur r3.2.1) 1) (nI sz)) 7519 ((uI r3.2.1 (fP (sCur r3.2.1) 1) (nI sz)).1 1819))) (fun r2 => f_X11_work k 3 (lI (lI (lI (lI lZ 1 (nI sz)) 2 r1.1.2) 3 r3.1.2) 100 r2.1) r2.2)) _
    rw [sc3]
    generalize hs5 : uI (uI r3.2.1 (fP (sCur σ) 1) (nI sz)) 7519 ((uI r3.2.1 (fP (sCur σ) 1) (nI sz)).1 1819) = s5
    have g1 : ∀ i, ¬ (i = fP (sCur σ) 1 ∨ i = 7519) → s5.1 i = r3.2.1.1 i := fun i hi => by rw [← hs5, uI_o (by omega), uI_o (by omega)]
    have g1f : s5.1 (fP (sCur σ) 1) = nI sz := by rw [← hs5, uI_o (by omega), uI_s]
    have g2 : s5.2 = r3.2.1.2 := by rw [← hs5]; rfl
    clear hs5
    have px5 : PFx r3.2.1 s5 := ⟨⟨fun j hj h4 => g1 j (by omega), fun j _ => by rw [g2]⟩, fun k hk => ⟨by rw [g2], by show s5.2.2.2.2.1 k = _; rw [g2]⟩, by rw [g2]⟩
    have by5 : BY False s5 := by
      have b3 := mg3.1
      unfold BY at b3 ⊢
      rw [show sN s5 = sN r3.2.1 by show s5.2.2.2.2.1 = _; rw [g2], g2, g1 1812 (by omega), g1 1813 (by omega), g1 1907 (by omega)]
      exact b3
    have h5 : HfN (uI s2 (fP (sCur σ) 1) (nI sz)) s5 := by
      refine ⟨fun i h1 h2 => ?_, fun k hk => ?_, ?_, ?_⟩
      · by_cases e : i = fP (sCur σ) 1
        · rw [e, g1f, uI_s]
        · rw [g1 i (by omega), uI_o e]; exact hn3.1 i h1 h2
      · rw [g2, show sN s5 k = sN r3.2.1 k by show s5.2.2.2.2.1 k = _; rw [g2]]
        exact hn3.2.1 k hk
      · rw [g2]; exact hn3.2.2.1
      · refine ⟨?_, ?_, ?_⟩
        · show s5.2.2.2.2.2.1.1 = _; rw [g2]; exact hn3.2.2.2.1
        · show s5.2.2.2.2.2.1.2.1 = _; rw [g2]; exact hn3.2.2.2.2.1
        · show s5.2.2.2.2.2.1.2.2.2.2 = _; rw [g2]; exact hn3.2.2.2.2.2
    have cM5 : cM cc (sCur σ) s5 = cM cc (sCur σ) s2 := (HfN_cM h5).trans rfl
    have sp5 : sPr s5 = some (sCur σ) := by
      show s5.2.2.2.2.2.1.2.2.1 = _
      rw [g2]
      show r3.2.1.2.2.2.2.2.1.2.2.1 = _
      rw [v4.2.2.2.2]
      exact sp2.trans y1
    have ctl : CtL2 (cM (mkc cc (cdr (sCur σ) s2) (sz + cs.length + 1) (rsD sz D)) (sCur σ) s2) (cM cc (sCur σ) s5) := by
      rw [cM5]
      exact ⟨rfl, rfl, rfl, pgt.2.2.2.1.2.2.1, dn⟩
    have mg5 := MsG_nn ctl px5 (ct_M sp5) by5 (by rw [g2]; exact (MsG_v mg3).2) mg3
    have e9 : s5.1 1903 = σ.1 1903 := by
      rw [g1 1903 (by omega), v2, vr2.1 1903 (by omega), rx.1.1 1903 (by omega)]
    have e5 : ∀ i, i = 7517 ∨ i = 7518 ∨ i = 3701 ∨ i = 7510 ∨ i = 7511 ∨ i = 7513 ∨ i = 7512 → s5.1 i = s2.1 i := fun i hi => by rw [g1 i (by omega)]; exact v4.1 i (by omega)
    have e7 : ∀ i, i = 7517 ∨ i = 7518 ∨ i = 7510 ∨ i = 7511 ∨ i = 7513 → s2.1 i = σ.1 i := fun i hi => by
      by_cases e : i = 7513
      · rw [e]; exact f13
      · rw [vr2.1 i (by omega)]; exact rx.1.1 i (by omega)
    have n66 : sN s5 66 = sN σ 66 := by
      show s5.2.2.2.2.1 66 = _
      rw [g2]
      rw [show r3.2.1.2.2.2.2.1 66 = sN s2 66 from (v4.2.2.1 66 (by unfold rwM; omega)).2, vr_n vr2, rx.2.1.2.1 66 (by omega)]
    have q17 : uN (s5.1 7517) ≤ sN s5 66 := by rw [e5 7517 (by omega), e7 7517 (by omega), n66]; exact q1
    have q18 : uN (s5.1 7518) ≤ 2 := by rw [e5 7518 (by omega), e7 7518 (by omega)]; exact q2
    have scS : sCur (uI s2 (fP (sCur σ) 1) (nI sz)) = sCur σ := sc2
    have close : ∀ s, HfN (uI s2 (fP (sCur σ) 1) (nI sz)) s → sPr s = some (sCur σ) → uN (s.1 7517) ≤ sN s 66 → uN (s.1 7518) ≤ 2 → Mst (cM cc (sCur σ) s2) s → uN (s.1 1903) ≤ 20000 * (j + 1) → IC XE (j + 1) s := fun s h1 h2 h3 h4 h5 h6 => by
      refine IC_runN icS hj ?_ h1 (by rw [scS]; exact h2) h3 h4 ⟨sz, E.1, E.2.2.2.2.2.2, cc, hX, by rw [scS]; exact pg', by rw [scS]; exact cd', by rw [scS]; exact h5, h6⟩
      rw [uI_o (by omega), e7 7510 (by omega)]
      exact k0
    have ph5 := Ph_s (σ := r3.2.1) (σ' := s5) (by rw [g2])
    have co1 : r3.2.2.1 + PhC r3.2.1 ≤ PhC s2 := v3.1
    have co2 : r3.2.2.2 + PhS r3.2.1 ≤ PhS s2 := v3.2
    refine Tm_op (c_isError (L := lI lZ 0 r3.1.2) (σ := s5)) (fun r5 z5 => ?_)
    obtain ⟨⟨x1, x2⟩, _, x4⟩ := z5
    rw [x1]
    refine Tm_suc (fun k => by rw [f_X11_work]) ?_
    refine Tm_ite (fun cE => ?_) (fun cE => ?_)
    · have gv : Gv g r3.1.2 := by
        rcases gw with z | z
        · exact z
        · exact absurd z (x4.1 (lI_same.symm.trans cE))
      refine Tm_suc (fun k => by rw [f_X11_work]) ?_
      refine Tm_oxc (c_show (g := g) (L := lI lZ 1 r3.1.2) (MsG_v mg5).1 (MsG_v mg5).2 by5 q18 gv) (fun r z => z.1) (fun r6 z6 => ?_)
      obtain ⟨b1, b2, b3, b4, b5, b6, b7⟩ := z6
      have mg6 := MsG_xx (c1 := cM cc (sCur σ) s5) (c2 := cM cc (sCur σ) s5) ⟨rfl, rfl, rfl, fun _ _ z => z⟩ (SwF_x b3) (by
        have := ct_M (c := cc) (b := sCur σ) (σ := r6.2.1) ((SwF_M b3).2.2.2.2.1.trans sp5)
        rw [Sw_cM b3] at this
        exact this) b5 b4 mg5
      have ms6 := Mst_of mg6
      rw [cM5] at ms6
      have h6 := HfN_t h5 (HfN_sw b3)
      have e96 : r6.2.1.1 1903 = s5.1 1903 := b3.1.1 1903 (by decide)
      have ic6 := close r6.2.1 h6 ((SwF_M b3).2.2.2.2.1.trans sp5) b6 b7 ms6 (by rw [e96, e9]; omega)
      have co3 : r6.2.2.1 + PhC r6.2.1 ≤ PhC s5 := b2.1
      have co4 : r6.2.2.2 + PhS r6.2.1 ≤ PhS s5 := b2.2
      refine Tm_suc (fun k => by rw [f_X11_work]) ?_
      refine Tm_some (fin _ rfl ic6 ?_ (fun i hi => ?_) ?_ (by show r1.2.2.1 + (r3.2.2.1 + (r6.2.2.1 + 0)) + PhC r6.2.1 ≤ _; omega) (by show r1.2.2.2 + (r3.2.2.2 + (r6.2.2.2 + 0)) + PhS r6.2.1 ≤ _; omega))
      · show r6.2.1.1 3701 = 0
        rw [b3.1.1 3701 (by decide), e5 3701 (by omega)]
        exact f37
      · show r6.2.1.1 i = σ.1 i
        rw [b3.1.1 i (by omega), e5 i (by omega)]
        exact e7 i (by omega)
      · show r6.2.1.1 7512 = qq.2.1 11
        rw [b3.1.1 7512 (by omega), e5 7512 (by omega), f12, u6, hv.2 _ rfl]
    · have ms5 := Mst_of mg5
      rw [cM5] at ms5
      have ic5 := close s5 h5 sp5 q17 q18 ms5 (by rw [e9]; omega)
      refine Tm_suc (fun k => by rw [f_X11_work]) ?_
      refine Tm_some (fin _ rfl ic5 ?_ (fun i hi => ?_) ?_ (by show r1.2.2.1 + (r3.2.2.1 + 0) + PhC s5 ≤ _; omega) (by show r1.2.2.2 + (r3.2.2.2 + 0) + PhS s5 ≤ _; omega))
      · show s5.1 3701 = 0
        rw [e5 3701 (by omega)]
        exact f37
      · show s5.1 i = σ.1 i
        rw [e5 i (by omega)]
        exact e7 i (by omega)
      · show s5.1 7512 = qq.2.1 11
        rw [e5 7512 (by omega), f12, u6, hv.2 _ rfl]
theorem hp_work (hj : j < 512) : cPr j (fun x => x = 0 ∨ x = 2) (fun σ k => f_X11_work k 0 lZ σ) (fun τ k => x_work k 0 (fun _ => 0) (fun _ => 0) τ) (fun _ _ => True) := cPq_R (hp_workE hj)
end DZP
end JnS567
section JnS568
/-! The house: what a round does: room, renewing. -/
section DZQ
variable {σ s s1 σ' : CS} {c : Ct} {g g' : Nat → Prop} {l l' : List Nat} {t t' i p : Nat} {x : Int32} {L : LV}
theorem MsG_ct (h : MsG c g l t σ) : CtL c σ := by
  obtain ⟨_, _, K, K2, K3, K4, mi, _⟩ := h
  exact mi.2.2.1
theorem CtL_r (h : CtL c σ) (e1 : ∀ k, ¬ (k = 65 ∨ k = 67) → s.2.2.1 k = σ.2.2.1 k) (e2 : s.2.2.2 = σ.2.2.2) : CtL c s := by
  obtain ⟨b, h1, h2, h3, h4⟩ := h
  have p0 := pR0_c (sKd σ b)
  have p13 := pR_13 b
  have kd : sKd s = sKd σ := by show s.2.2.2.2.2.1.2.2.2.2 = _; rw [e2]
  refine ⟨b, by show s.2.2.2.2.2.1.2.2.1 = _; rw [e2]; exact h1, by rw [kd, e1 _ (by omega)]; exact h2, by rw [kd]; show s.2.2.2.2.1 _ = _; rw [e2]; exact h3, fun u hu => ?_⟩
  rw [e1 (pR13 b) (by omega), e1 (pR14 b) (by omega), e1 (pR18 b) (by omega)]
  exact h4 u hu
theorem MsG_r (h : MsG c g l t σ) (e0 : s.1 = σ.1) (e0' : s.2.1 = σ.2.1) (e1 : ∀ k, ¬ (k = 65 ∨ k = 67) → s.2.2.1 k = σ.2.2.1 k) (e2 : s.2.2.2 = σ.2.2.2) (h67 : ∀ i, i < 27 → Gv g (s.2.2.1 67 i)) : MsG c g l t s := by
  have nn : sN s = sN σ := by show s.2.2.2.2.1 = _; rw [e2]
  have by0 : BY False s := by
    have b := h.1
    unfold BY at b ⊢
    rw [e1 13 (by decide), e1 22 (by decide), e1 66 (by decide), nn, e0]
    exact b
  exact MsG_xx (c1 := c) (c2 := c) ⟨rfl, rfl, rfl, fun _ _ z => z⟩ ⟨⟨fun j _ _ => by rw [e0], fun j _ => by rw [e0']⟩, fun k hk => ⟨e1 k (by omega), by rw [nn]⟩, by rw [e2]⟩ (CtL_r (MsG_ct h) e1 e2) by0 h67 h
theorem MsG_67 (h : MsG c g l t σ) (hx : Gv g x) : MsG c g l t (uA σ 67 i x) := by
  refine MsG_r h rfl rfl (fun k hk => uA_k (by omega)) rfl (fun k hk => ?_)
  rw [uA_r]
  by_cases e : k = i
  · rw [e, upd_same]; exact hx
  · rw [upd_other e]; exact (MsG_v h).2 k hk
theorem MsG_65 (h : MsG c g l t σ) : MsG c g l t (uA σ 65 i x) := by
  refine MsG_r h rfl rfl (fun k hk => uA_k (by omega)) rfl (fun k hk => ?_)
  rw [uA_k (by decide)]
  exact (MsG_v h).2 k hk
theorem c_room (h : MsG c g l t σ) : Tm (fun k => f_X3_makeRoom k 0 L σ) (fun r => r.1.1 = 0 ∧ CoP σ r ∧ RmF σ r.2.1 ∧ ∃ (g' : Nat → Prop) (l' : List Nat) (t' : Nat), MsG c g' l' t' r.2.1) := by
  obtain ⟨by0, sp, K, K2, K3, K4, mi, rn⟩ := h
  refine Tm_mono (Tm_Bf (c_makeRoom mi.1 mi.2.1) (fun k => kb_f_X3_makeRoom k 0 L σ by0)) (fun r z => ?_)
  obtain ⟨rm, by1⟩ := z
  obtain ⟨g', l', t', mi'⟩ := MIn_rm mi rm
  obtain ⟨z1, z2, z3, _⟩ := rm
  have e : ∀ j, ¬ (j = 1 ∨ j = 2403 ∨ j = 2404 ∨ j = 2405) → r.2.1.1 j = σ.1 j := z3.1.1
  refine ⟨by rw [z1], z2, z3, g', l', t', by1, by rw [e 1902 (by decide)]; exact sp, K, K2, K3, K4, mi', fun z => ?_⟩
  rw [e 1907 (by decide)] at z
  rw [e 1905 (by decide), e 1900 (by decide), e 1901 (by decide), e 1902 (by decide), e 1908 (by decide)]
  exact rn z
theorem MsG_Ga (h : MsG c g l t σ) (a : Ga g t σ g' l' t' σ') (by0 : BY False σ') : MsG c g' l' t' σ' := by
  obtain ⟨_, sp, K, K2, K3, K4, mi, rn⟩ := h
  have e := a.2.2.2.2.1
  refine ⟨by0, by rw [e 1902 (by decide)]; exact sp, K, K2, K3, K4, (MIn_Ga mi a).1, fun z => ?_⟩
  rw [e 1907 (by decide)] at z
  rw [e 1905 (by decide), e 1900 (by decide), e 1901 (by decide), e 1902 (by decide), e 1908 (by decide)]
  exact rn z
/-- what renewing leaves -/
def RnF (σ s : CS) : Prop := (∀ j, ¬ (j = 1 ∨ j = 404 ∨ j = 1203) → s.1 j = σ.1 j) ∧ s.2.1 = σ.2.1 ∧ (∀ k, ¬ (k = 3 ∨ (5 ≤ k ∧ k ≤ 11) ∨ k = 13 ∨ (15 ≤ k ∧ k ≤ 17) ∨ k = 67) → s.2.2.1 k = σ.2.2.1 k) ∧ s.2.2.2 = σ.2.2.2
theorem RnF_t (a : RnF σ s) (d : RnF s s1) : RnF σ s1 := ⟨fun j hj => (d.1 j hj).trans (a.1 j hj), d.2.1.trans a.2.1, fun k hk => (d.2.2.1 k hk).trans (a.2.2.1 k hk), d.2.2.2.trans a.2.2.2⟩
theorem RnF_r (σ : CS) : RnF σ σ := ⟨fun _ _ => rfl, rfl, fun _ _ => rfl, rfl⟩
theorem RnF_u : RnF σ (uA σ 67 i x) := ⟨fun _ _ => rfl, rfl, fun k hk => uA_k (by omega), rfl⟩
theorem RnF_a (a : AWf σ s) : RnF σ s := ⟨a.1, a.2.1, fun k hk => a.2.2.1 k (by omega), a.2.2.2⟩
def RnP (c : Ct) (σ : CS) (r : Int32 × CS) : Prop := RnF σ r.2 ∧ ∃ (g : Nat → Prop) (l : List Nat) (t : Nat), MsG c g l t r.2
theorem c_renew (h : MsG c g l t σ) (h1 : L.1 1 = nI p) (hp : p ≤ 24) : Tm (fun k => y_X11_renew k 0 L σ) (RnP c σ) := by
  obtain ⟨hq, hv⟩ := MsG_v h
  have ix : ∀ d, d ≤ 2 → ¬ (nI p + nI d < 0 ∨ 27 ≤ (nI p + nI d).toNatClampNeg) := fun d hd => by rw [n_add (by omega)]; exact n_in (by omega) (by omega)
  have ix0 : ¬ (nI p < 0 ∨ 27 ≤ (nI p).toNatClampNeg) := n_in (by omega) (by omega)
  have b8 : ∀ (L' : LV) (s : CS), (L'.1 4 = 0 ∨ L'.1 4 = 1) → RnP c σ (L'.1 4, s) → Tm (fun k => y_X11_renew k 8 L' s) (RnP c σ) := fun L' s h4 hr => by
    refine Tm_suc (fun k => by rw [y_X11_renew]) ?_
    exact Tm_chk h4 (Tm_some hr)
  have b4 : ∀ (L' : LV), (L'.1 4 = 0 ∨ L'.1 4 = 1) → L'.1 1 = nI p → Gv g (L'.1 2) → Gv g (L'.1 3) → Tm (fun k => y_X11_renew k 4 L' σ) (RnP c σ) := fun L' h4 h1' h2 h3 => by
    refine Tm_suc (fun k => by rw [y_X11_renew]) ?_
    rw [h1']
    refine Tm_chk ix0 ?_
    refine Tm_ite (fun c4 => ?_) (fun c4 => ?_)
    · refine Tm_chk (ix 1 (by omega)) (Tm_chk (ix 2 (by omega)) ?_)
      refine Tm_suc (fun k => by rw [y_X11_renew]) ?_
      have g2 : Gv g 2 := Or.inr ⟨by decide, by have := hq.2.2.2.1.2.2; exact this⟩
      refine b8 _ _ h4 ⟨RnF_t RnF_u (RnF_t RnF_u RnF_u), g, l, t, MsG_67 (MsG_67 (MsG_67 h h3) g2) g2⟩
    · refine Tm_suc (fun k => by rw [y_X11_renew]) ?_
      have m1 : MsG c g l t (uA σ 67 (nI p).toNatClampNeg (L'.1 3)) := MsG_67 h h3
      refine Tm_ite (fun c5 => ?_) (fun c5 => ?_)
      · refine Tm_suc (fun k => by rw [y_X11_renew]) ?_
        refine Tm_chk (by show ¬ (L'.1 1 + 1 < 0 ∨ 27 ≤ (L'.1 1 + 1).toNatClampNeg); rw [h1']; exact ix 1 (by omega)) (Tm_chk (by show ¬ (L'.1 1 + 2 < 0 ∨ 27 ≤ (L'.1 1 + 2).toNatClampNeg); rw [h1']; exact ix 2 (by omega)) ?_)
        exact b8 _ _ h4 ⟨RnF_t RnF_u (RnF_t RnF_u RnF_u), g, l, t, MsG_67 (MsG_67 m1 h3) h2⟩
      · refine Tm_oc (Tm_By (c_binary (L := lI (lI (lI lZ 1 129) 2 (L'.1 3)) 3 (L'.1 2)) (MsG_v m1).1 h3 h2) (fun k => kb_y_X0_binary k 0 _ _ m1.1)) (fun r2 z2 => ?_)
        obtain ⟨⟨g', l', t', ga, gv⟩, by2⟩ := z2
        have m2 := MsG_Ga m1 ga by2
        have gv' : Gv g' r2.1 := gv.elim id Gv_rw
        have m3 : MsG c g' l' t' (uA r2.2 67 (L'.1 1 + 1).toNatClampNeg r2.1) := MsG_67 m2 gv'
        refine Tm_chk (by show ¬ (L'.1 1 + 1 < 0 ∨ 27 ≤ (L'.1 1 + 1).toNatClampNeg); rw [h1']; exact ix 1 (by omega)) ?_
        refine Tm_oc (Tm_By (c_binary (L := lI (lI (lI lZ 1 129) 2 (L'.1 2)) 3 (L'.1 3)) (MsG_v m3).1 (Gv_sg h2 ga.2.1) (Gv_sg h3 ga.2.1)) (fun k => kb_y_X0_binary k 0 _ _ m3.1)) (fun r4 z4 => ?_)
        obtain ⟨⟨g2, l2, t2, ga2, gv2⟩, by4⟩ := z4
        have m4 := MsG_Ga m3 ga2 by4
        refine Tm_chk (by show ¬ (L'.1 1 + 2 < 0 ∨ 27 ≤ (L'.1 1 + 2).toNatClampNeg); rw [h1']; exact ix 2 (by omega)) ?_
        exact b8 _ _ h4 ⟨RnF_t RnF_u (RnF_t (RnF_a ga.2.2.2.2) (RnF_t RnF_u (RnF_t (RnF_a ga2.2.2.2.2) RnF_u))), g2, l2, t2, MsG_67 m4 (gv2.elim id Gv_rw)⟩
  have b2 : ∀ (L' : LV), (L'.1 100 = 0 ∨ L'.1 100 = 1) → L'.1 1 = nI p → Gv g (L'.1 2) → Gv g (L'.1 3) → Tm (fun k => y_X11_renew k 2 L' σ) (RnP c σ) := fun L' h4 h1' h2 h3 => by
    have b3 : ∀ L2 : LV, (L2.1 4 = 0 ∨ L2.1 4 = 1) → L2.1 1 = nI p → Gv g (L2.1 2) → Gv g (L2.1 3) → Tm (fun k => y_X11_renew k 3 L2 σ) (RnP c σ) := fun L2 k4 k1 k2 k3 => by
      refine Tm_suc (fun k => by rw [y_X11_renew]) ?_
      exact b4 _ k4 k1 k2 k3
    refine Tm_suc (fun k => by rw [y_X11_renew]) ?_
    refine Tm_oc (c_kind (L := lI lZ 1 (L'.1 2)) hq h2) (fun r1 z1 => ?_)
    rw [z1]
    refine Tm_ite (fun _ => ?_) (fun _ => ?_)
    · refine Tm_oc (c_kind (L := lI lZ 1 (L'.1 3)) hq h3) (fun r3 z3 => ?_)
      rw [z3]
      refine Tm_ite (fun _ => ?_) (fun _ => ?_)
      · exact b4 _ h4 h1' h2 h3
      · exact b3 _ h4 h1' h2 h3
    · exact b3 _ h4 h1' h2 h3
  refine Tm_suc (fun k => by rw [y_X11_renew]) ?_
  rw [h1]
  refine Tm_chk ix0 (Tm_chk (by decide) ?_)
  have v1 : Gv g (σ.2.2.1 67 (nI p).toNatClampNeg) := by rw [n_cl (p := p) (by omega)]; exact hv p (by omega)
  have v2 : Gv g (σ.2.2.1 67 (2 : Int32).toNatClampNeg) := hv 2 (by decide)
  refine Tm_oc (c_same (L := lI (lI lZ 1 (σ.2.2.1 67 (nI p).toNatClampNeg)) 2 (σ.2.2.1 67 (2 : Int32).toNatClampNeg)) hq v1 v2) (fun r3 z3 => ?_)
  rw [z3.1]
  refine Tm_ite (fun _ => ?_) (fun _ => ?_)
  · exact b2 _ (Or.inr rfl) h1 v1 v2
  · refine Tm_suc (fun k => by rw [y_X11_renew]) ?_
    exact b2 _ (Or.inl rfl) h1 v1 v2
end DZQ
end JnS568
section JnS569
/-! The house: round, on both sides. -/
section DZR
variable {σ s s1 r : CS} {c : Ct} {a1 a2 n1 n2 i j V : Nat} {x : Int32} {XE : XEt}
/-- within a round -/
def RoI (σ : CS) (a1 a2 : Nat) (s : CS) : Prop := HfN σ s ∧ (sPr s = sPr σ ∧ s.1 7511 = σ.1 7511 ∧ s.1 7517 = σ.1 7517 ∧ s.1 7518 = σ.1 7518 ∧ sN s 66 = sN σ 66 ∧ s.1 1903 = σ.1 1903) ∧ (a1 + PhC s ≤ PhC σ ∧ a2 + PhS s ≤ PhS σ)
def RoP (c : Ct) (σ : CS) (a1 a2 : Nat) (r : RS) : Prop := r.1.1 = 0 ∧ RoI σ (a1 + r.2.2.1) (a2 + r.2.2.2) r.2.1 ∧ ∃ (g : Nat → Prop) (l : List Nat) (t : Nat), MsG c g l t r.2.1
theorem RoP_s {q : RS} (h : RoP c σ (a1 + n1) (a2 + n2) q) : RoP c σ a1 a2 (q.1, q.2.1, (n1 + q.2.2.1, n2 + q.2.2.2)) := by
  obtain ⟨h1, h2, h3⟩ := h
  rw [Nat.add_assoc, Nat.add_assoc] at h2
  exact ⟨h1, h2, h3⟩
theorem RoI_f (h : RoI σ a1 a2 s) (f : MFr s r) (e3 : r.1 1903 = s.1 1903) (c1 : n1 + PhC r ≤ PhC s) (c2 : n2 + PhS r ≤ PhS s) : RoI σ (a1 + n1) (a2 + n2) r := by
  obtain ⟨h1, ⟨h2, h3, h4, h5, h6, h7⟩, h8, h9⟩ := h
  refine ⟨HfN_t h1 (HfN_m f), ⟨?_, (f.1 7511 (by decide)).trans h3, (f.1 7517 (by decide)).trans h4, (f.1 7518 (by decide)).trans h5, ((f.2.2.1 66 (by unfold rwM; omega)).2).trans h6, e3.trans h7⟩, by omega, by omega⟩
  show r.2.2.2.2.2.1.2.2.1 = _
  rw [f.2.2.2.2]
  exact h2
theorem MFr_n (h : RnF s r) : MFr s r := ⟨fun j hj => h.1 j (by omega), fun j _ => by rw [h.2.1], fun k hk => by
  unfold rwM at hk
  exact ⟨h.2.2.1 k (by omega), by show r.2.2.2.2.1 k = _; rw [h.2.2.2]⟩, by rw [h.2.2.2], by rw [h.2.2.2]⟩
theorem RoI_n (h : RoI σ a1 a2 s) (f : RnF s r) : RoI σ a1 a2 r := by
  have ph := Ph_s (σ := s) (σ' := r) (by rw [f.2.2.2])
  exact RoI_f (n1 := 0) (n2 := 0) h (MFr_n f) (f.1 1903 (by decide)) (by omega) (by omega)
theorem RoI_65 (h : RoI σ a1 a2 s) : RoI σ a1 a2 (uA s 65 i x) := by
  obtain ⟨h1, h2, h3⟩ := h
  exact ⟨HfN_t h1 ⟨fun _ _ _ => rfl, fun k hk => ⟨uA_k (by omega), rfl⟩, rfl, ⟨rfl, rfl, rfl⟩⟩, h2, h3⟩
theorem c_rounds (ck : CkA c) (ev : ∀ i, i < V → EnV c (uN (σ.2.2.1 64 i))) (hV : σ.1 7513 = nI V) (V8 : V ≤ 8) : ∀ (d i : Nat), d + i = V → ∀ (L : LV) (s : CS) (a1 a2 : Nat) (g : Nat → Prop) (l : List Nat) (t : Nat), L.1 2 = nI i → RoI σ a1 a2 s → MsG c g l t s → Tm (fun k => f_X11_round k 1 L s) (RoP c σ a1 a2) := by
  intro d
  induction d with
  | zero =>
    intro i hi L s a1 a2 g l t h2 ro ms
    have e13 : s.1 7513 = nI V := (ro.1.1 7513 (by decide) (by decide)).trans hV
    refine Tm_suc (fun k => by rw [f_X11_round]) ?_
    rw [e13, h2]
    refine Tm_ite (fun _ => ?_) (fun z => absurd ((n_le (by omega) (by omega)).mpr (by omega)) z)
    refine Tm_suc (fun k => by rw [f_X11_round]) ?_
    refine Tm_some ?_
    exact ⟨rfl, ro, g, l, t, ms⟩
  | succ d ih =>
    intro i hi L s a1 a2 g l t h2 ro ms
    have e13 : s.1 7513 = nI V := (ro.1.1 7513 (by decide) (by decide)).trans hV
    have i8 : ¬ (nI i < 0 ∨ 8 ≤ (nI i).toNatClampNeg) := n_in (by omega) (by omega)
    have b6 : ∀ (L' : LV) (s' : CS) (A1 A2 : Nat) (g : Nat → Prop) (l : List Nat) (t : Nat), L'.1 2 = nI i → RoI σ A1 A2 s' → MsG c g l t s' → Tm (fun k => f_X11_round k 6 L' s') (RoP c σ A1 A2) := fun L' s' A1 A2 g l t k2 ro' ms' => by
      refine Tm_suc (fun k => by rw [f_X11_round]) ?_
      rw [k2]
      refine Tm_chk (by decide) (Tm_chk i8 ?_)
      rw [n_add1]
      exact ih (i + 1) (by omega) _ _ A1 A2 g l t rfl (RoI_65 (RoI_n ro' RnF_u)) (MsG_65 (MsG_67 ms' (Gv_om g)))
    have b4 : ∀ (L' : LV) (s' : CS) (A1 A2 : Nat) (g : Nat → Prop) (l : List Nat) (t : Nat), L'.1 2 = nI i → L'.1 101 = 2 → Gv g (L'.1 100) → RoI σ A1 A2 s' → MsG c g l t s' → Tm (fun k => f_X11_round k 4 L' s') (RoP c σ A1 A2) := fun L' s' A1 A2 g l t k2 k1 kv ro' ms' => by
      refine Tm_suc (fun k => by rw [f_X11_round]) ?_
      rw [k1]
      refine Tm_chk (by decide) ?_
      refine Tm_oxc (c_room (MsG_67 ms' kv)) (fun r z => z.1) (fun r2 z2 => ?_)
      obtain ⟨_, z3, z4, g', l', t', ms2⟩ := z2
      have ro1 : RoI σ A1 A2 (uA s' 67 (2 : Int32).toNatClampNeg (L'.1 100)) := RoI_n ro' RnF_u
      have ro2 : RoI σ (A1 + r2.2.2.1) (A2 + r2.2.2.2) r2.2.1 := RoI_f ro1 (MFr_R z4) (z4.1.1 1903 (by decide)) z3.1 z3.2
      refine Tm_mono (Q := RoP c σ (A1 + r2.2.2.1) (A2 + r2.2.2.2)) ?_ (fun q z => RoP_s z)
      have e3 : 3 + 3 * L'.1 2 = nI (3 + 3 * i) := by
        rw [k2]
        have := (by decide : ∀ m : Fin 8, (3 : Int32) + 3 * nI m.1 = nI (3 + 3 * m.1)) ⟨i, by omega⟩
        exact this
      refine Tm_op (c_renew (L := lI lZ 1 (3 + 3 * L'.1 2)) (p := 3 + 3 * i) ms2 e3 (by omega)) (fun r3 z5 => ?_)
      obtain ⟨rf, g3, l3, t3, ms3⟩ := z5
      have ro3 := RoI_n ro2 rf
      refine Tm_ite (fun _ => ?_) (fun _ => ?_)
      · refine Tm_suc (fun k => by rw [f_X11_round]) ?_
        exact b6 _ _ _ _ g3 l3 t3 k2 ro3 ms3
      · exact b6 _ _ _ _ g3 l3 t3 k2 ro3 ms3
    refine Tm_suc (fun k => by rw [f_X11_round]) ?_
    rw [e13, h2]
    refine Tm_ite (fun z => absurd ((n_le (by omega) (by omega)).mp z) (by omega)) (fun _ => ?_)
    refine Tm_chk i8 ?_
    rw [n_cl (p := i) (by omega)]
    have r64 : s.2.2.1 64 = σ.2.2.1 64 := (ro.1.2.1 64 (by omega)).1
    refine Tm_oxc (c_evaluate (L := lI lZ 1 (s.2.2.1 64 i)) (Mst_of ms) ck (by show EnV c (uN (s.2.2.1 64 i)); rw [r64]; exact ev i (by omega))) (fun r z => z.1) (fun r3 z3 => ?_)
    obtain ⟨v1, v2, v3, v4, g', l', t', ms3, gw⟩ := z3
    have ro3 : RoI σ (a1 + r3.2.2.1) (a2 + r3.2.2.2) r3.2.1 := RoI_f ro v4 v2 v3.1 v3.2
    refine Tm_mono (Q := RoP c σ (a1 + r3.2.2.1) (a2 + r3.2.2.2)) ?_ (fun q z => RoP_s z)
    refine Tm_op (c_isError (L := lI lZ 0 r3.1.2) (σ := r3.2.1)) (fun r5 z5 => ?_)
    obtain ⟨⟨x1, x2⟩, _, x4⟩ := z5
    rw [x1]
    refine Tm_ite (fun cE => ?_) (fun cE => ?_)
    · have gv : Gv g' r3.1.2 := by
        rcases gw with z | z
        · exact z
        · exact absurd z (x4.1 cE)
      refine Tm_suc (fun k => by rw [f_X11_round]) ?_
      exact b4 _ _ _ _ g' l' t' h2 rfl gv ro3 ms3
    · exact b4 _ _ _ _ g' l' t' h2 rfl (Gv_om g') ro3 ms3
theorem hp_round (hj : j < 512) : cPr j (fun x => x = 0 ∨ x = 2) (fun σ k => f_X11_round k 0 lZ σ) (fun τ k => x_round k 0 (fun _ => 0) τ) (fun _ _ => True) := by
  intro σ τ h
  have h0 := h
  obtain ⟨XE, ic, rf, tr, e10, e11, e13⟩ := h
  show Tm (fun k => f_X11_round k 0 lZ σ) _
  refine Tm_suc (fun k => by rw [f_X11_round]) ?_
  refine Tm_wr (fun z => ?_) (fun nz => ?_)
  · exact ⟨Or.inr rfl, by show 1 + PhC σ ≤ _; omega, by show 6 + PhS σ ≤ _; omega, IB_k2 (gM := fun k => x_round k 0 (fun _ => 0) τ) h0 hj (fun XE rf => rj_round rf)⟩
  obtain ⟨k0, y1, y2, sz, gl, pr, cc, z1, z2, z3, z4, z5, z6, z7, z8⟩ := IC_r ic nz
  have q3 : uN (σ.1 7513) ≤ 8 := by obtain ⟨n, sz, _, _, ⟨_, _, q⟩, _⟩ := ic; exact q
  have q1 : uN (σ.1 7517) ≤ sN σ 66 := by obtain ⟨n, sz, _, _, ⟨q, _, _⟩, _⟩ := ic; exact q
  have q2 : uN (σ.1 7518) ≤ 2 := by obtain ⟨n, sz, _, _, ⟨_, q, _⟩, _⟩ := ic; exact q
  have h41 : σ.2.2.1 (pR18 (sCur σ)) 41 = 0 := by obtain ⟨n, sz, _, ⟨_, q, _⟩, _⟩ := ic; exact (q _).1
  obtain ⟨V, hV⟩ : ∃ V, uN (σ.1 7513) = V := ⟨_, rfl⟩
  have eV : σ.1 7513 = nI V := u_eq.2 (by rw [hV, u_n (by omega)])
  obtain ⟨g, l, t, mg⟩ := Mst_G z4
  have ro0 : RoI σ 0 0 σ := ⟨⟨fun _ _ _ => rfl, fun _ _ => ⟨rfl, rfl⟩, rfl, ⟨rfl, rfl, rfl⟩⟩, ⟨rfl, rfl, rfl, rfl, rfl, rfl⟩, by omega, by omega⟩
  refine Tm_mono (c_rounds (σ := σ) (V := V) z5 (fun i hi => ev_M (V := uN (σ.1 7513)) z2 h41 (by omega)) eV (by omega) V 0 (by omega) (lI (lI lZ 1 0) 2 0) σ 0 0 g l t rfl ro0 mg) (fun r w => ?_)
  obtain ⟨w1, ⟨w2, ⟨w3, w4, w5, w6, w7, w8⟩, w9, w10⟩, g', l', t', ms⟩ := w
  rw [Nat.zero_add] at w9 w10
  have ic' : IC XE (j + 1) r.2.1 := IC_runN ic hj k0 w2 (w3.trans y1) (by rw [w5, w7]; exact q1) (by rw [w6]; exact q2) ⟨sz, gl, pr, cc, z1, z2, z3, Mst_of ms, by rw [w8]; omega⟩
  refine ⟨Or.inl w1, by show r.2.2.1 + PhC r.2.1 ≤ _; omega, by show r.2.2.2 + PhS r.2.1 ≤ _; omega, ?_⟩
  refine Tm_mono (rj_round rf) (fun q w => ⟨?_, trivial⟩)
  show IB (j + 1) r.2.1 q.2
  exact ⟨XE, ic', w.1, KpT_rel (tRel_s tr (w2.1 3701 (by decide) (by decide)) (w2.2.1 38 (by omega)).1) w.2, by rw [w2.1 7510 (by decide) (by decide), w.2.2.2.1]; exact e10, by rw [w4, w.2.2.2.2]; exact e11, by rw [w2.1 7513 (by decide) (by decide), w.2.2.1]; exact e13⟩
end DZR
end JnS569
section JnS570
/-! The first state, on both sides. -/
theorem CGo_h {M : Nat → Int32} {g : Nat → Prop} {t p : Nat} {H : Int32} (e : M p = H) (h1 : uN H < 2147483648) (h2 : p + hdW (uN H) < t) (h3 : hdK (uN H) = 4 ∨ hdK (uN H) = 5 ∨ hdK (uN H) = 6) (h4 : hdT (uN H) ≤ 30 ∧ 1 ≤ hdS (uN H)) (h5 : hdL (uN H) = 0) (h6 : 5 ≤ hdK (uN H) → 1 ≤ hdT (uN H)) : CGo M g t p := by
  unfold CGo
  rw [e]
  refine ⟨h1, h2, Or.inr h3, h4, fun z => by omega, fun z => ⟨by omega, h6 z, fun i hi => by omega⟩, fun _ _ i hi => by omega⟩
theorem hq_0 : HQ (fun p => p < 3) [] 3 cs0 := by
  refine ⟨rfl, ⟨Nat.le_refl _, by decide⟩, Or.inl ⟨rfl, rfl, rfl⟩, ⟨by decide, by decide, by decide⟩, ⟨rfl, rfl, rfl⟩, rfl, fun p hp => ⟨Or.inl hp, ?_⟩⟩
  have hp' : p < 3 := hp
  have : p = 0 ∨ p = 1 ∨ p = 2 := by omega
  rcases this with rfl | rfl | rfl
  · exact CGo_h (H := 65540) rfl (by decide) (by decide) (by decide) (by decide) (by decide) (by decide)
  · exact CGo_h (H := 67174405) rfl (by decide) (by decide) (by decide) (by decide) (by decide) (by decide)
  · exact CGo_h (H := 67174414) rfl (by decide) (by decide) (by decide) (by decide) (by decide) (by decide)
theorem z_0 {k : Nat} (h : ¬ (k = 3 ∨ k = 67)) (i : Nat) : cs0.2.2.1 k i = 0 := by
  show (if k = 3 then (upd (upd (upd nZ 0 65540) 1 67174405) 2 67174414) else if k = 67 then (nFill (-2147483648) 27 nZ) else nZ) i = 0
  rw [if_neg (by omega), if_neg (by omega)]
theorem fit_0 : fits .byte (.int 0) = true := by decide
theorem by_0 : BY False cs0 := by
  refine ⟨fun i => ?_, fun i => ?_, fun i => ?_, by decide, by decide, fun _ => ⟨rfl, fun z => z.elim⟩⟩
  · rw [z_0 (by decide)]; exact fit_0
  · rw [z_0 (by decide)]; exact fit_0
  · rw [z_0 (by decide)]; exact fit_0
theorem hmx_0 : Hmx cs0 := by
  have g0 : Gv (fun p => p < 3) 0 := Or.inr ⟨by decide, by decide⟩
  refine ⟨fun p => p < 3, [], 3, KN, hq_0, ⟨⟨by decide, by decide⟩, by decide, by decide⟩, fun i hi => ?_, fun i hi => ?_, by decide, fun i hi => hi, fun i j _ _ e => e⟩
  · rw [z_0 (by decide)]
    exact ⟨Or.inl g0, fun _ => g0, fun v e => (by cases e)⟩
  · have e : cs0.2.2.1 67 i = -2147483648 := by
      show nFill (-2147483648) 27 nZ i = _
      exact if_pos hi
    rw [e]
    exact ⟨Or.inl (Gv_om _), fun _ => Gv_om _, fun v e => (by cases e)⟩
theorem f_0 {i : Nat} (h : ¬ (i = 1 ∨ i = 2406)) : cs0.1 i = 0 := by
  show (if i = 1 then (3 : Int32) else if i = 2406 then 256 else 0) = 0
  rw [if_neg (by omega), if_neg (by omega)]
theorem tok_0 : tOK cs0 := by
  unfold tOK
  rw [f_0 (by decide)]
  exact ⟨by decide, by decide +kernel, by decide, by decide +kernel, fun i hi => by rw [z_0 (by decide)]; exact fit_0⟩
theorem gen39 (w : Nat → Int64) : (if (39 : Nat) = 39 then w else (fun _ => 0)) = w := if_pos rfl
theorem lx_0 : cs0.2.2.2.1 39 = lxW := by
  have e : cs0.2.2.2.1 39 = (if (39 : Nat) = 39 then lxW else (fun _ => 0)) := by unfold cs0; with_reducible rfl
  rw [e, gen39]
theorem u_0 : uN (0 : Int32) = 0 := rfl
theorem ic_0 : IC none 0 cs0 := by
  have c1 : CdL (sCur cs0) 0 cs0 := by
    refine ⟨f_0 (by decide), Nat.zero_le _, Or.inr ⟨rfl, rfl⟩⟩
  have b1 : ∀ b, cs0.2.2.1 (pR18 b) 41 = 0 ∧ cs0.2.2.1 (pR14 b) 41 = 0 := fun b => ⟨z_0 (by cases b <;> decide) _, z_0 (by cases b <;> decide) _⟩
  have n1 : sN cs0 41 ≤ 21504 := by decide +kernel
  have n2 : sN cs0 42 = 64 := by decide +kernel
  have tok := tok_0
  have hm := hmx_0
  have byz := by_0
  have a1 : cs0.1 3701 = nI 0 := f_0 (i := 3701) (by decide)
  have a2 : cs0.2.2.2.1 39 = lxW := lx_0
  have a3 : sOt cs0 = !(sCur cs0) := rfl
  have a4 : 2 * 0 + 7 * (0 + 20 * (512 - 0)) ≤ 71682 := by omega
  have a5 : uN (cs0.1 7517) ≤ sN cs0 66 := by rw [f_0 (i := 7517) (by decide), u_0]; exact Nat.zero_le _
  have a6 : uN (cs0.1 7518) ≤ 2 := by rw [f_0 (i := 7518) (by decide), u_0]; omega
  have a7 : uN (cs0.1 7513) ≤ 8 := by rw [f_0 (i := 7513) (by decide), u_0]; omega
  have a8 : cs0.1 7510 = 0 := f_0 (i := 7510) (by decide)
  have a9 : cs0.1 7511 = 0 := f_0 (i := 7511) (by decide)
  have n0 : (0 : Nat) ≤ 20 * 0 := Nat.zero_le _
  generalize cs0 = σ at *
  exact ⟨0, 0, ⟨tok, a1, n0, a2⟩, ⟨a3, b1, n1, Or.inl n2, c1, a4⟩, ⟨a5, a6, a7⟩, ⟨hm, byz⟩, Or.inl ⟨a8, a9, rfl⟩⟩
theorem ib_0 : IB 0 cs0 ms0 := ⟨none, ic_0, rj_0, ⟨rfl, fun i hi => absurd hi (by show ¬ (i : Int) < 0; omega)⟩, ⟨fun _ => rfl, fun _ => rfl⟩, ⟨fun _ => rfl, fun _ => rfl⟩, rfl⟩
theorem ph_0 : PhC cs0 = 14 ∧ PhS cs0 = 550228 := by decide +kernel
end JnS570
section JnS571
/-! What feed and end answer, on both sides (for p2, p3). -/
section DZS
variable {j : Nat} {cs : Nat → Prop} {gC : CS → Nat → Option RS} {gM : MS → Nat → Option (Int32 × MS)} {E : RS → Int32 × MS → Prop}
theorem cPr_E (h : cPr j cs gC gM (fun _ _ => True)) (e : ∀ σ τ, IB j σ τ → Tm (gC σ) (fun r => Tm (gM τ) (fun q => E r q))) : cPr j cs gC gM E := fun σ τ hi => Tm_mono (Tm_and (h σ τ hi) (e σ τ hi)) (fun r z => ⟨z.1.1, z.1.2.1, z.1.2.2.1, Tm_mono (Tm_and z.1.2.2.2 z.2) (fun q w => ⟨w.1.1, w.2⟩)⟩)
theorem hp_endE (hj : j < 512) (a1 : Int32) : cPr j (fun x => x = 0 ∨ x = 1) (fun σ k => f_X11_end k 0 (lI lZ 1 a1) σ) (fun τ k => x_end k 0 (upd (fun _ => 0) 1 a1) τ) (fun r q => q.2.1 2 = wv 1 1 1 r.1.1) := by
  refine cPr_E (hp_end hj a1) (fun σ τ h => ?_)
  obtain ⟨XE, ic, rf, tr, e10, e11, e13⟩ := h
  refine Tm_mono (s_Cend (lI lZ 1 a1) σ) (fun r z => Tm_mono (s_end (upd (fun _ => 0) 1 a1) τ) (fun q w => ?_))
  have e1 : (lI lZ 1 a1).1 1 = a1 := rfl
  have e2 : (upd (fun _ => 0) 1 a1 : Nat → Int32) 1 = a1 := rfl
  rw [e1] at z
  rw [e2, ← tr.1] at w
  by_cases c : ¬ a1 < 0 ∧ a1 ≤ σ.1 3701
  · rw [if_pos c] at z w
    rw [z, w]
    show upd (upd τ.1 2 0) 4 a1 2 = wv 1 1 1 0
    rw [upd_other (by decide), upd_same]
    rfl
  · rw [if_neg c] at z w
    rw [z, w]
    show upd τ.1 2 1 2 = wv 1 1 1 1
    rw [upd_same]
    rfl
theorem hp_feedE (hj : j < 512) (a1 a2 a3 a4 a5 : Int32) : cPr j (fun x => x = 0 ∨ x = 4) (fun σ k => f_X11_feed k 0 (lI (lI (lI (lI (lI lZ 1 a1) 2 a2) 3 a3) 4 a4) 5 a5) σ) (fun τ k => x_feed k 0 (upd (upd (upd (upd (upd (fun _ => 0) 1 a1) 2 a2) 3 a3) 4 a4) 5 a5) τ) (fun r q => q.2.1 2 = wv 4 1 1 r.1.1 ∧ (r.1.1 = 0 → r.1.2 = q.1)) := by
  refine cPr_E (hp_feed hj a1 a2 a3 a4 a5) (fun σ τ h => ?_)
  obtain ⟨XE, ic, rf, tr, e10, e11, e13⟩ := h
  obtain ⟨n, sz, ⟨t1, t2, t3, t4⟩, _⟩ := ic
  have i37 : (σ.1 3701).toInt = n := by rw [t2, n_int (by omega)]
  have e4 : τ.1 4 = nI n := tr.1.symm.trans t2
  have i4 : (τ.1 4).toInt = n := by rw [e4, n_int (by omega)]
  refine Tm_mono (s_Cfeed (lI (lI (lI (lI (lI lZ 1 a1) 2 a2) 3 a3) 4 a4) 5 a5) σ t1) (fun r z => ?_)
  rw [if_pos (by omega)] at z
  obtain ⟨z1, z2⟩ := z
  refine Tm_mono (s_feed _ τ (by omega) (by omega)) (fun q w => ?_)
  rw [if_pos (by omega)] at w
  obtain ⟨w3, w4⟩ := w
  obtain ⟨k1, k2, k3⟩ := mTape_rest (upd τ.1 2 0, τ.2.1, τ.2.2) (upd (upd (upd (upd (upd (fun _ => 0) 1 a1) 2 a2) 3 a3) 4 a4) 5 a5) 20
  have fs := feed_same (τ := τ) (M := upd (upd (upd (upd (upd (fun _ => 0) 1 a1) 2 a2) 3 a3) 4 a4) 5 a5) t1 tr (fun k h1 h2 => by
    have : k = 1 ∨ k = 2 ∨ k = 3 ∨ k = 4 ∨ k = 5 := by omega
    rcases this with rfl | rfl | rfl | rfl | rfl <;> rfl) (by omega) z2
  obtain ⟨row, m, y1, y2⟩ := z2
  have e37 : r.2.1.1 3701 = σ.1 3701 + 20 := by
    rw [y1, tC_len]
    rfl
  refine ⟨?_, fun _ => ?_⟩
  · rw [z1, w3, k2 2 (by decide)]
    show upd τ.1 2 0 2 = wv 4 1 1 0
    rw [upd_same]
    rfl
  · rw [z1, w4, w3, ← fs.1.1, e37]
end DZS
end JnS571
