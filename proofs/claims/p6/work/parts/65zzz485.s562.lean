/-! The class: an exp that is asked for is read. -/
section DZK
variable {σ σ1 σ2 σ3 s s' τ τ' : CS} {ρ : MS} {b : Bool} {N N0 M W n nc sz mk a1 a2 vg nu al f : Nat} {E : En} {c : Ct} {MD : Nat → Nat → Nat} {bt : BT} {L : LV} {β : Type} {x : Option RT}
/-- behind it: refused, or its code lies at N -/
def RxO (b : Bool) (N M n : Nat) (E : En) (vg : Nat) (x : Option RT) (σ : CS) (a1 a2 : Nat) (r : RS) : Prop := r.1.1 = 0 ∧ (a1 + r.2.2.1 + PhC r.2.1 ≤ PhC σ + 1 ∧ a2 + r.2.2.2 + PhS r.2.1 ≤ PhS σ + 6) ∧ RxF b N M n σ r.2.1 ∧ r.2.1.1 (fP b 11) = nI M ∧ (x = none → r.1.2 = 0 ∧ r.2.1.1 (fP b 1) = nI N) ∧ ∀ t, x = some t → r.1.2 = 1 ∧ ∃ cs : List Int32, CdL b (N + cs.length + 1) r.2.1 ∧ (∀ i, i < cs.length → cdr b r.2.1 (N + i) = cs.getD i 0) ∧ cdr b r.2.1 (N + cs.length) = em 10 0 ∧ Sgm 41 0 (glD E vg) (VmD 0) 1 cs ∧ 2 * cs.length ≤ 3 * n + 1
def RxY (b : Bool) (N M n : Nat) (σ : CS) (a1 a2 : Nat) (τ : CS) : Prop := RxF b N M n σ τ ∧ a1 + PhC τ ≤ PhC σ ∧ a2 + PhS τ ≤ PhS σ
theorem RxO_s {n1 n2 : Nat} {r : RS} (h : RxO b N M n E vg x σ (a1 + n1) (a2 + n2) r) : RxO b N M n E vg x σ a1 a2 (r.1, r.2.1, (n1 + r.2.2.1, n2 + r.2.2.2)) := by
  obtain ⟨h1, h2, h3⟩ := h
  refine ⟨h1, ?_, h3⟩
  show a1 + (n1 + r.2.2.1) + PhC r.2.1 ≤ PhC σ + 1 ∧ a2 + (n2 + r.2.2.2) + PhS r.2.1 ≤ PhS σ + 6
  omega
/-- what was thrown is caught: all is set back -/
theorem rx_no (h : RxF b N M n σ τ) (c1 : a1 + PhC τ ≤ PhC σ + 1) (c2 : a2 + PhS τ ≤ PhS σ + 6) (hx : x = none) : Tm (fun k => op (y_X5_noteFault k 0 lZ τ) (fun r2 => some ((0, 0), uI (uI r2.2 (fP b 1) (nI N)) (fP b 11) (nI M), (0, 0)))) (RxO b N M n E vg x σ a1 a2) := by
  have fn := fP_ns b
  refine Tm_op c_note (fun r2 w2 => Tm_some ?_)
  obtain ⟨w3, w4⟩ := w2
  have ph := Ph_s (σ := τ) (σ' := uI (uI r2.2 (fP b 1) (nI N)) (fP b 11) (nI M)) (by show r2.2.2.2.2.2.1 = _; rw [w4])
  refine ⟨rfl, ?_, RxF_u h (fun j hj => ?_) w4, uI_s, fun _ => ⟨rfl, ?_⟩, fun t e => by rw [hx] at e; cases e⟩
  · show a1 + 0 + PhC (uI (uI r2.2 (fP b 1) (nI N)) (fP b 11) (nI M)) ≤ PhC σ + 1 ∧ a2 + 0 + PhS (uI (uI r2.2 (fP b 1) (nI N)) (fP b 11) (nI M)) ≤ PhS σ + 6
    omega
  · show (uI (uI r2.2 (fP b 1) (nI N)) (fP b 11) (nI M)).1 j = τ.1 j
    rw [uI_o (by omega), uI_o (by omega)]
    exact w3 j (by omega)
  · show (uI (uI r2.2 (fP b 1) (nI N)) (fP b 11) (nI M)).1 (fP b 1) = nI N
    rw [uI_o (by omega), uI_s]
/-- a call within try -/
theorem rx_call {z : Option β} {R : β → Int32 → CS → Prop} {gg : Nat → Option RS} {ff : Nat → RS → Option RS} (h : RxY b N M n σ a1 a2 τ) (hM : M ≤ nc) (hN : N ≤ sz) (t : Tm gg (QPo b 41 nc sz mk z R τ 0 0)) (hx : (z = none ∧ x = none) ∨ ∃ s, z = some s ∧ ∀ (τ' : CS) (ret : Int32) (n1 n2 : Nat), R s ret τ' → XK b 41 nc sz mk τ τ' → RxY b N M n σ (a1 + n1) (a2 + n2) τ' → Tm (fun k => ff k ((0, ret), τ', (n1, n2))) (RxO b N M n E vg x σ (a1 + n1) (a2 + n2))) : Tm (fun k => oh (gg k) (ff k) (fun r => op (y_X5_noteFault k 0 lZ r.2.1) (fun r2 => some ((0, 0), uI (uI r2.2 (fP b 1) (nI N)) (fP b 11) (nI M), (0, 0))))) (RxO b N M n E vg x σ a1 a2) := by
  obtain ⟨h1, h2, h3⟩ := h
  refine Tm_oh (g := fun k r => op (y_X5_noteFault k 0 lZ r.2.1) (fun r2 => some ((0, 0), uI (uI r2.2 (fP b 1) (nI N)) (fP b 11) (nI M), (0, 0)))) t (fun r w nz => ?_) (fun r w e0 => ?_) (fun r w e1 => ?_)
  · cases z with
    | none => exact w.2.1 rfl
    | some s => exact absurd (w.1 s rfl).1 nz
  · rcases hx with ⟨e1, e2⟩ | ⟨s, e1, cont⟩
    · exact absurd (w.2.1 e1) (by rw [e0]; decide)
    · have y := w.2.2.1 e0
      have k := cont r.2.1 r.1.2 r.2.2.1 r.2.2.2 (w.1 s e1).2 w.2.2.2.2 ⟨RxF_x h1 w.2.2.2.2 hM hN, by omega, by omega⟩
      have er : ((0, r.1.2), r.2.1, (r.2.2.1, r.2.2.2)) = r := by
        rw [← e0]
      rw [er] at k
      exact Tm_mono k (fun q z => RxO_s z)
  · rcases hx with ⟨e2, e3⟩ | ⟨s, e2, _⟩
    · have y := w.2.2.2.1 (by rw [e1]; decide)
      exact Tm_mono (rx_no (a1 := a1 + r.2.2.1) (a2 := a2 + r.2.2.2) (RxF_x h1 w.2.2.2.2 hM hN) (by omega) (by omega) e3) (fun q z => RxO_s z)
    · exact absurd (w.1 s e2).1 (by rw [e1]; decide)
theorem c_readExp (hok : tOK σ) (hl : σ.1 3701 = nI n) (hn : n ≤ 10240) (hw : σ.2.2.2.1 39 = lxW) (ht : tRel σ ρ) (cd : CdL b N σ) (h41 : sN σ 41 ≤ 21504) (tb : TbR b (tbE 0 E) σ) (de : DE E 0 vg nu vg) (pgu : PgU E vg nu N0 W c) (ut : UTb b nu c MD σ) (bd : 2 * N + 3 * n + 102 ≤ 73728) (hL : L.2.2.1 1 = b) (hA : L.1 2 = nI al) (hal : al ≤ 1) (hG : gX (ρ.2.2 3) n f (E.1, [], [], 42, false, decide (al = 1), E.2.2.2.2.2.2) bt = some x) : Tm (fun k => f_X5_readExp__P k 0 L σ) (RxO b N (tbE 0 E).length n E vg x σ 0 0) := by
  have fn := fP_ns b
  have f9 := fP_19 b
  have p13 := pR_13 b
  have hsk : sk (ρ.2.2 3) n 0 ≤ n := skE_le (ρ.2.2 3) n (n + 1) 0 (Nat.zero_le _)
  have nl : E.2.1 = [] := (de.1.2.1 rfl).1
  have e1N : σ.1 (fP b 1) = nI N := cd.1
  have e11 : σ.1 (fP b 11) = nI (tbE 0 E).length := tb.1
  have tbl : (tbE 0 E).length = E.1.length := by rw [tbE_l, nl]; rfl
  have tbe : tbE 0 E = tbE 41 (E.1, [], [], 41, false, decide (al = 1), E.2.2.2.2.2.2) := by
    unfold tbE
    rw [nl]
    rfl
  refine Tm_suc (fun k => by rw [f_X5_readExp__P]) ?_
  rw [hL, e1N, e11, hA]
  refine Tm_op (c_openUnit (L := lI (lB lZ 0 b) 1 41) (u := 41) (b := b) (by decide) rfl rfl) (fun r1 e1 => ?_)
  rw [e1]
  generalize hs1 : opU b 41 (σ.1 (fP b 1)) σ = σ1
  have s1f : ∀ j, ¬ j = fP b 19 → σ1.1 j = σ.1 j := fun j hj => by rw [← hs1]; exact opU_f hj
  have s119 : σ1.1 (fP b 19) = 0 := by rw [← hs1]; exact opU_19
  have s116 : σ1.2.2.1 (pR16 b) 41 = 0 := by rw [← hs1, opU_16, upd_same]
  have s1k : ∀ k, ¬ (k = pR13 b ∨ k = pR14 b ∨ k = pR15 b ∨ k = pR16 b ∨ k = pR17 b ∨ k = pR18 b) → σ1.2.2.1 k = σ.2.2.1 k := fun k hk => by rw [← hs1]; exact opU_k hk
  have s12 : σ1.2.2.2 = σ.2.2.2 := by rw [← hs1]; exact opU_2.2
  have n1 : sN σ1 = sN σ := by show σ1.2.2.2.2.1 = _; rw [s12]
  have hok1 : tOK σ1 := by
    unfold tOK at hok ⊢
    rw [s1f 3701 (by omega), n1, s1k 38 (by omega)]
    exact hok
  have hl1 : σ1.1 3701 = nI n := (s1f 3701 (by omega)).trans hl
  have ht1 : tRel σ1 ρ := tRel_s ht (s1f 3701 (by omega)) (s1k 38 (by omega))
  have ph1 := Ph_s (σ := σ) (σ' := σ1) n1
  refine Tm_oxc (c_begin5 hok1 hl1 (by omega) ht1 (L := lI (lI (lB lZ 1 b) 2 41) 3 (nI al)) rfl) (fun r h => by rw [h.1]) (fun r h => ?_)
  obtain ⟨⟨q1, q2⟩, σ2, ⟨n1', n2'⟩⟩ := r
  obtain ⟨-, co, bg, sm, e4, ⟨p1, p2, p3⟩, ⟨p4, p5, p6, p7, p8⟩⟩ := h
  have bg0 := bg
  obtain ⟨⟨a1, a2⟩, ⟨a3, a4⟩, ⟨⟨a5, a6, a7, a8⟩, a9⟩, a10⟩ := bg
  have co1 : n1' + PhC σ2 ≤ PhC σ1 := co.1
  have co2 : n2' + PhS σ2 ≤ PhS σ1 := co.2
  have adv := c_advP (L := lZ) a10 sm (by rw [a4, s12]; exact hw) e4 (Nat.zero_le n)
  unfold gX at hG
  refine Tm_mono (Q := RxO b N (tbE 0 E).length n E vg x σ n1' n2') ?_ (fun q z => RxO_s (a1 := 0) (a2 := 0) (n1 := n1') (n2 := n2') (by rw [Nat.zero_add, Nat.zero_add]; exact z))
  refine Tm_oh (g := fun k r => op (y_X5_noteFault k 0 lZ r.2.1) (fun r2 => some ((0, 0), uI (uI r2.2 (fP b 1) (nI N)) (fP b 11) (nI (tbE 0 E).length), (0, 0)))) adv (fun r w nz => ?_) (fun r w e0 => ?_) (fun r w e1' => ?_)
  · by_cases k0 : tkK (ρ.2.2 3) n (sk (ρ.2.2 3) n 0) = 0
    · rw [(w.1 k0).1]
    · exact absurd (by rw [(w.2.1 k0).1]) nz
  · have k0 : ¬ tkK (ρ.2.2 3) n (sk (ρ.2.2 3) n 0) = 0 := fun k0 => by
      rw [(w.1 k0).1] at e0
      exact absurd e0 (by decide)
    rw [if_neg k0] at hG
    obtain ⟨w1, w2, lx⟩ := w.2.1 k0
    obtain ⟨kd, st, en, hi, lo, es⟩ := w.2.2
    have w21 : r.2.2.1 = 0 ∧ r.2.2.2 = 0 := by rw [w2]; exact ⟨rfl, rfl⟩
    refine Tm_mono (Q := RxO b N (tbE 0 E).length n E vg x σ (n1' + r.2.2.1) (n2' + r.2.2.2)) ?_ (fun q z => RxO_s z)
    have ph3 := Ph_s (σ := σ2) (σ' := r.2.1) (by rw [es]; rfl)
    have rxf : RxF b N (tbE 0 E).length n σ r.2.1 := RxF_0 hs1.symm bg0 es cd h41
    have ry : RxY b N (tbE 0 E).length n σ (n1' + r.2.2.1) (n2' + r.2.2.2) r.2.1 := ⟨rxf, by omega, by omega⟩
    generalize n1' + r.2.2.1 = c1 at ry ⊢
    generalize n2' + r.2.2.2 = c2 at ry ⊢
    generalize hτ : r.2.1 = τ at *
    clear hs1
    have sf : ∀ j, ¬ (3702 ≤ j ∧ j ≤ 3704) → τ.1 j = σ2.1 j := fun j hj => by
      rw [es]
      show upd (upd (upd σ2.1 3702 kd) 3703 st) 3704 en j = _
      rw [upd_other (by omega), upd_other (by omega), upd_other (by omega)]
    have s2 : τ.2.2 = σ2.2.2 := by rw [es]; rfl
    have qs : QS (ρ.2.2 3) n b 41 al (tbE 0 E) 0 (sk (ρ.2.2 3) n 0) 0 0 0 N τ := by
      refine ⟨lx, ⟨?_, rxf.2.2.2.2.2.2.1⟩, ⟨by rw [sf _ (by decide)]; exact p7, Nat.zero_le _, rxf.2.2.2.2.2.2.2.1⟩, ⟨?_, tb.2.1, fun i hi => ?_⟩, ⟨by show τ.2.2.2.2.2.1.2.2.2.1 = _; rw [s2]; exact p1, by rw [sf _ (by decide)]; exact p2, by rw [sf _ (by decide)]; exact p3⟩, ⟨by rw [sf _ (by decide)]; exact p4, Nat.zero_le _⟩, ⟨?_, Nat.zero_le _⟩, ?_⟩
      · rw [sf _ (by omega), a1 _ (by omega), s1f _ (by omega)]; exact e1N
      · rw [sf _ (by omega), a1 _ (by omega), s1f _ (by omega)]; exact e11
      · obtain ⟨⟨y1, y2⟩, ⟨y3, y4⟩, y5, y6⟩ := rxf.2.2.2.2.1 i hi
        rw [y1, y2, y3, y4, y5, y6]
        exact tb.2.2 i hi
      · rw [s2, (a3 _ (by omega)).1]; exact s116
      · rw [sf _ (by omega), a1 _ (by omega)]; exact s119
    have ut' : UTb b nu c MD τ := fun i hi => by
      have nu40 := de.2.1.2.2.1
      obtain ⟨y1, y2, y3, y4⟩ := rxf.2.2.2.1.1 (i + 1) (by omega)
      rw [y1, y2, y3, y4]
      exact ut i hi
    have de4 : DE ((E.1, [], [], 41, false, decide (al = 1), E.2.2.2.2.2.2) : En) 41 vg nu 0 := ⟨⟨rfl, fun e => absurd e (by decide), fun _ => rfl⟩, ⟨de.2.1.1, de.2.1.2.1, de.2.1.2.2.1, by omega⟩, de.2.2.1, de.2.2.2.1, fun y hy => absurd hy List.not_mem_nil⟩
    have ev4 := EvX_P (E := ((E.1, [], [], 41, false, decide (al = 1), E.2.2.2.2.2.2) : En)) (al := al) (b := b) (σ := τ) de4 (show PgU (E.1, [], [], 41, false, decide (al = 1), E.2.2.2.2.2.2) vg nu N0 W c from pgu) ut' (by decide) (by omega) ⟨fun z => (by cases z), fun z => (by omega)⟩ (by
      show decide (al = 1) = true ↔ 1 ≤ al
      rw [decide_eq_true_iff]
      omega)
    rw [← tbe] at ev4
    have ev : EvX ((E.1, [], [], 42, false, decide (al = 1), E.2.2.2.2.2.2) : En) b 41 al (glD E vg) (VmD 0) (tbE 0 E) τ := ev4
    have el := de.2.1
    have bdx : BdX n 0 (sk (ρ.2.2 3) n 0) 0 0 0 N (tbE 0 E).length := ⟨hn, by omega, by omega, by omega, by omega⟩
    have gz : ∃ z, G (ρ.2.2 3) n f 0 (E.1, [], [], 42, false, decide (al = 1), E.2.2.2.2.2.2) 0 (sk (ρ.2.2 3) n 0) 0 0 0 0 0 bt = some z := by
      rcases gb_any hG with ⟨z, _⟩ | ⟨t, z, _⟩
      · exact ⟨_, z⟩
      · exact ⟨_, z⟩
    obtain ⟨z, hz⟩ := gz
    have te : Tm (fun k => f_F2 k 400 1 0 (lI lZ 1 0) τ) (QPo b 41 (tbE 0 E).length N 0 z (fun r _ τ' => XR (ρ.2.2 3) n b 41 al (glD E vg) (VmD 0) (tbE 0 E) 0 0 0 N (sk (ρ.2.2 3) n 0) 0 r τ') τ 0 0) := px_all f 400 0 0 (Or.inl ⟨rfl, rfl⟩) _ 0 (sk (ρ.2.2 3) n 0) 0 bt z hz (glD E vg) (VmD 0) (tbE 0 E) 0 0 N τ (lI lZ 1 0) qs ev bdx rfl (by omega)
    rw [hz] at hG
    show Tm (fun k => oh (f_F2 k 400 1 0 (lI lZ 1 0) τ) (fun r4 => oh (f_X5_want k 0 (lI lZ 1 1) r4.2.1) (fun r5 => oh (f_X7_emit__P k 0 (lI (lI (lB lZ 0 b) 1 10) 2 0) r5.2.1) (fun r6 => some ((0, 1), r6.2.1, (0, 0))) (fun r6 => op (y_X5_noteFault k 0 lZ r6.2.1) (fun r8 => some ((0, 0), (uI (uI r8.2 (fP b 1) (nI N)) (fP b 11) (nI (tbE 0 E).length)), (0, 0))))) (fun r5 => op (y_X5_noteFault k 0 lZ r5.2.1) (fun r10 => some ((0, 0), (uI (uI r10.2 (fP b 1) (nI N)) (fP b 11) (nI (tbE 0 E).length)), (0, 0))))) (fun r4 => op (y_X5_noteFault k 0 lZ r4.2.1) (fun r12 => some ((0, 0), (uI (uI r12.2 (fP b 1) (nI N)) (fP b 11) (nI (tbE 0 E).length)), (0, 0))))) _
    cases z with
    | none =>
      have ex : x = none := (Option.some.inj hG).symm
      exact rx_call (z := none) ry (Nat.le_refl _) (Nat.le_refl _) te (Or.inl ⟨rfl, ex⟩)
    | some t =>
      refine rx_call (z := some t) ry (Nat.le_refl _) (Nat.le_refl _) te (Or.inr ⟨t, rfl, fun τ1 ret1 m1 m2 xr xk1 ry1 => ?_⟩)
      obtain ⟨cs, q2', cd2, sg, ln, lt, lv, _⟩ := xr
      have t1n : t.1 ≤ n := q2'.1.2.2.2.1
      have hG2 : (if tkK (ρ.2.2 3) n t.1 = 25 then some (some t) else some none) = some x := hG
      by_cases k25 : tkK (ρ.2.2 3) n t.1 = 25
      · rw [if_pos k25] at hG2
        have ex : x = some t := (Option.some.inj hG2).symm
        refine rx_call (z := some _) ry1 (Nat.le_refl _) (Nat.le_add_right _ _) (c_wantQ (kk := 25) (L := lI lZ 1 1) q2' (by decide) rfl (Or.inr ⟨k25, rfl⟩)) (Or.inr ⟨_, rfl, fun τ2 ret2 m3 m4 e2 xk2 ry2 => ?_⟩)
        have e2' : τ2 = τ1 := e2
        rw [e2'] at ry2 ⊢
        refine rx_call (z := some ()) ry2 (Nat.le_refl _) (Nat.le_add_right _ _) (c_emitQ (oq := 10) (L := lI (lI (lB lZ 0 b) 1 10) 2 0) q2' rfl rfl (by omega)) (Or.inr ⟨_, rfl, fun τ4 ret4 m5 m6 r4 xk4 ry4 => ?_⟩)
        obtain ⟨q4, cd4⟩ := r4
        refine Tm_some ⟨rfl, ?_, ry4.1, q4.2.2.2.1.1, fun e => (by rw [ex] at e; cases e), fun t' e => ⟨rfl, cs, q4.2.1, fun i hi => ?_, cd4, sg, by omega⟩⟩
        · have y1 := ry4.2.1
          have y2 := ry4.2.2
          show c1 + m1 + m3 + m5 + 0 + PhC τ4 ≤ PhC σ + 1 ∧ c2 + m2 + m4 + m6 + 0 + PhS τ4 ≤ PhS σ + 6
          omega
        · show cdr b τ4 (N + i) = _
          rw [(xk4.2.2.2.2.2.1 (N + i) (by omega)).1]
          exact cd2 i hi
      · rw [if_neg k25] at hG2
        have ex : x = none := (Option.some.inj hG2).symm
        exact rx_call (z := none) ry1 (Nat.le_refl _) (Nat.le_add_right _ _) (c_wantQ (kk := 25) (L := lI lZ 1 1) q2' (by decide) rfl (Or.inl ⟨k25, rfl⟩)) (Or.inl ⟨rfl, ex⟩)
  · have k0 : tkK (ρ.2.2 3) n (sk (ρ.2.2 3) n 0) = 0 := by
      by_cases k0 : tkK (ρ.2.2 3) n (sk (ρ.2.2 3) n 0) = 0
      · exact k0
      · rw [(w.2.1 k0).1] at e1'
        exact absurd e1' (by decide)
    rw [if_pos k0] at hG
    have ex : x = none := (Option.some.inj hG).symm
    obtain ⟨w1, w2⟩ := w.1 k0
    obtain ⟨kd, st, en, hi, lo, es⟩ := w.2.2
    have ph3 := Ph_s (σ := σ2) (σ' := r.2.1) (by rw [es]; rfl)
    have w21 : r.2.2.1 = 1 ∧ r.2.2.2 = 6 := by rw [w2]; exact ⟨rfl, rfl⟩
    exact Tm_mono (rx_no (a1 := n1' + r.2.2.1) (a2 := n2' + r.2.2.2) (RxF_0 hs1.symm bg0 es cd h41) (by omega) (by omega) ex) (fun q z => RxO_s z)
end DZK
