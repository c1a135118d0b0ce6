section JnS547
/-! The house: program, whole, on both sides. -/
section DYW
variable {σ : CS} {ρ τ : MS} {b : Bool} {sz j n : Nat} {XE : XEt} {L : LV} {X : Fl (PRG × ST)} {up pp : Nat → Int32}
theorem nI_inj {a c : Nat} (h : nI a = nI c) (ha : a < 2147483648) (hc : c < 2147483648) : a = c := (n_eq ha hc).mp h
/-- the tape is told alike, where it is told of so -/
theorem tRel_s {s : CS} (h : tRel σ ρ) (e1 : s.1 3701 = σ.1 3701) (e2 : s.2.2.1 38 = σ.2.2.1 38) : tRel s ρ := by
  unfold tRel at h ⊢
  rw [e1, e2]
  exact h
theorem tRel_0 {s : CS} (e1 : s.1 3701 = 0) (e2 : τ.1 4 = 0) : tRel s τ := by
  unfold tRel
  rw [e1, e2]
  refine ⟨rfl, fun i hi => ?_⟩
  have : (0 : Int32).toInt = 0 := rfl
  omega
/-- how many: statements, variables, procs of the program that stands -/
def cnC (σ : CS) : Int32 × Int32 × Int32 := (σ.1 (fP (sCur σ) 3), σ.2.2.1 (pR16 (sCur σ)) 0, σ.1 (fP (sCur σ) 4))
theorem cnC_no {s : CS} {c : Bool} (e1 : sCur s = c) (e2 : sCur σ = c) (f : s.1 (fP c 3) = σ.1 (fP c 3) ∧ s.2.2.1 (pR16 c) 0 = σ.2.2.1 (pR16 c) 0 ∧ s.1 (fP c 4) = σ.1 (fP c 4)) : cnC s = cnC σ := by
  unfold cnC
  rw [e1, e2, f.1, f.2.1, f.2.2]
theorem pR16_m (b : Bool) : ¬ ((5 ≤ pR16 (!b) ∧ pR16 (!b) ≤ 11) ∨ pR16 (!b) = 38 ∨ (41 ≤ pR16 (!b) ∧ pR16 (!b) ≤ 43) ∨ pR16 (!b) = 51 ∨ pRw b (pR16 (!b))) := by
  cases b
  · unfold pRw; decide
  · unfold pRw; decide
/-- the numbers of a program that stands stay -/
theorem cn_keep {σ σ1 σ2 s3 : CS} {b : Bool} {sz sz' : Nat} (cu : sCur σ = !b) (c3 : sCur s3 = !b) (eb : EB b sz σ σ1) (rd : RdK b sz' σ1 σ2) (f1 : ∀ j, ¬ (j = 3701 ∨ j = 7512) → s3.1 j = σ2.1 j) (f3 : s3.2.2.1 = σ2.2.2.1) : cnC s3 = cnC σ := by
  have d : ∀ i, (i = 3 ∨ i = 4) → ¬ (fP (!b) i = 3701 ∨ fP (!b) i = 7512) ∧ ¬ (fP b 1 ≤ fP (!b) i ∧ fP (!b) i ≤ fP b 19) ∧ ¬ (fP (!b) i = 404 ∨ (3702 ≤ fP (!b) i ∧ fP (!b) i ≤ 3704) ∨ (4003 ≤ fP (!b) i ∧ fP (!b) i ≤ 4020) ∨ (fP b 1 ≤ fP (!b) i ∧ fP (!b) i ≤ fP b 19)) := by
    intro i hi
    rcases hi with rfl | rfl <;> cases b <;> decide
  have m13 : ¬ (pR16 (!b) = pR13 b ∨ pR16 (!b) = pR14 b ∨ pR16 (!b) = pR15 b ∨ pR16 (!b) = pR16 b ∨ pR16 (!b) = pR17 b ∨ pR16 (!b) = pR18 b) := by cases b <;> decide
  refine cnC_no c3 cu ⟨?_, ?_, ?_⟩
  · rw [f1 _ (d 3 (Or.inl rfl)).1, rd.1.1 _ (d 3 (Or.inl rfl)).2.2, eb.1.1 _ (d 3 (Or.inl rfl)).2.1]
  · rw [f3, rd.2.1.1 _ (pR16_m b), eb.2.1.1 _ m13]
  · rw [f1 _ (d 4 (Or.inr rfl)).1, rd.1.1 _ (d 4 (Or.inr rfl)).2.2, eb.1.1 _ (d 4 (Or.inr rfl)).2.1]
theorem fP_n (b : Bool) : ∀ i, (i = 3 ∨ i = 4) → ¬ (fP b i = 3701 ∨ fP b i = 7512) ∧ fP b i ≠ 7513 ∧ fP b i ≠ 7511 ∧ fP b i ≠ 7510 := by
  intro i hi
  rcases hi with rfl | rfl <;> cases b <;> decide
set_option maxHeartbeats 4000000 in
theorem c_program (h : IC XE j σ) (hj : j < 512) (ht : tRel σ ρ) (hn : σ.1 3701 = nI n) (n20 : n ≤ 20 * j) (hG : gPrg (ρ.2.2 3) n (g0 (ρ.2.2 3) n up pp) = some X) : Tm (fun k => f_X11_program k 0 L σ) (fun r => r.1.1 = 0 ∧ (r.2.2.1 + PhC r.2.1 ≤ PhC σ + 1 ∧ r.2.2.2 + PhS r.2.1 ≤ PhS σ + 6) ∧ r.2.1.1 3701 = 0 ∧ (∀ y, X = Sum.inl y → (IC XE (j + 1) r.2.1 ∧ r.2.1.1 7510 = σ.1 7510 ∧ r.2.1.1 7511 = σ.1 7511 ∧ r.2.1.1 7513 = σ.1 7513) ∧ r.1.2 = -1 - nI y.2 ∧ r.2.1.1 7512 = nI y.1 ∧ cnC r.2.1 = cnC σ) ∧ ∀ z, X = Sum.inr z → IC (some (z.1.2.1.1, z.1.2.1.2.2.2.2.2.2)) (j + 1) r.2.1 ∧ r.2.1.1 7510 = 1 ∧ r.2.1.1 7511 = 0 ∧ r.2.1.1 7513 = 0 ∧ r.1.2 = nI z.2.2.2.2.2.2.1 ∧ r.2.1.1 7512 = 0 ∧ cnC r.2.1 = (nI z.2.2.2.2.2.2.1, nI z.2.2.1, nI z.1.2.2.2.2.1)) := by
  have h0 := h
  obtain ⟨n', sz, ⟨t1, t2, t3, t4⟩, ⟨p1, p2, p3, p4, p5, p6⟩, ⟨q1, q2, q3⟩, ⟨m1, m2⟩, pp'⟩ := h
  obtain rfl : n' = n := nI_inj (t2.symm.trans hn) (by omega) (by omega)
  have cu : sCur σ = !(sOt σ) := by rw [p1, Bool.not_not]
  obtain ⟨B, hB, fB, fB'⟩ := fP_B (sOt σ)
  have g1 := fB 1
  have g19 := fB 19
  have pr13 := pR_13 (sOt σ)
  refine Tm_suc (fun k => by rw [f_X11_program]) ?_
  refine Tm_op (c_empB (b := sOt σ) (sz := sz) (L := lB (lB lZ 0 (sOt σ)) 1 (sCur σ)) rfl cu (by rw [← cu]; exact p5.1)) (fun r1 eb => ?_)
  generalize r1.2 = σ1 at eb ⊢
  have so1 : sOt σ1 = sOt σ := eb.2.2.2.1.2.1
  have r38 : σ1.2.2.1 38 = σ.2.2.1 38 := eb.2.1.1 38 (by omega)
  have e37 : σ1.1 3701 = σ.1 3701 := eb.1.1 3701 (by omega)
  have n1 : sN σ1 = sN σ := eb.2.2.1.2
  have kd1 : sKd σ1 (sOt σ) = sKd σ (sCur σ) := by rw [eb.2.2.2.2.1, if_pos rfl, ← cu]
  have rdb : RdB (sOt σ) n' sz σ1 := by
    refine ⟨⟨?_, e37.trans t2, by omega, by rw [eb.2.2.1.1]; exact t4⟩, ⟨eb.1.2.1.1, ?_, ?_⟩, by rw [n1]; exact p3, by rw [n1]; exact p4, by rw [eb.2.1.2.1.1]; exact (p2 _).1⟩
    · unfold tOK at t1 ⊢
      rw [e37, n1, r38]
      exact t1
    · show sz ≤ sN σ1 (pR0 (sKd σ1 (sOt σ)))
      rw [kd1, n1]
      exact p5.2.1
    · show sN σ1 (pR0 (sKd σ1 (sOt σ))) = 36864 ∨ _
      rw [kd1, n1]
      exact p5.2.2
  have ph1 := Ph_s (σ := σ) (σ' := σ1) n1
  refine Tm_oxc (c_readProgram (b := sOt σ) (N0 := sz) (K := 2 * sz + 7 * n' + 110) (L := lB lZ 1 (sOt σ1)) rdb (tRel_s ht e37 r38) so1 ⟨⟨eb.1.2.1.2.1, eb.1.2.1.2.2.1, eb.1.2.1.2.2.2.1, eb.1.2.1.2.2.2.2.1⟩, eb.2.1.2.2.1, eb.2.1.2.2.2⟩ eb.1.2.1.2.2.2.2.2 (by omega) (by omega) hG) (fun r h => h.1) (fun r2 z => ?_)
  obtain ⟨z1, z2, z3, z4, rd⟩ := z
  generalize hs : uKd (uI (uI r2.2.1 3701 0) 7512 ((uI r2.2.1 3701 0).1 4006)) (sCur (uI (uI r2.2.1 3701 0) 7512 ((uI r2.2.1 3701 0).1 4006))) (sKd (uI (uI r2.2.1 3701 0) 7512 ((uI r2.2.1 3701 0).1 4006)) (sOt (uI (uI r2.2.1 3701 0) 7512 ((uI r2.2.1 3701 0).1 4006)))) = s3
  have f0 : s3.1 3701 = 0 := by
    rw [← hs]
    show (uI (uI r2.2.1 3701 0) 7512 ((uI r2.2.1 3701 0).1 4006)).1 3701 = 0
    rw [uI_o (by decide), uI_s]
  have f1 : ∀ j, ¬ (j = 3701 ∨ j = 7512) → s3.1 j = r2.2.1.1 j := fun j hj => by
    rw [← hs]
    show (uI (uI r2.2.1 3701 0) 7512 ((uI r2.2.1 3701 0).1 4006)).1 j = _
    rw [uI_o (by omega), uI_o (by omega)]
  have f2 : s3.2.1 = r2.2.1.2.1 := by rw [← hs]; rfl
  have f3 : s3.2.2.1 = r2.2.1.2.2.1 := by rw [← hs]; rfl
  have f4 : s3.2.2.2.1 = r2.2.1.2.2.2.1 := by rw [← hs]; rfl
  have f5 : sN s3 = sN r2.2.1 := by rw [← hs]; rfl
  have f6 : sCur s3 = sCur r2.2.1 ∧ sOt s3 = sOt r2.2.1 ∧ sPr s3 = sPr r2.2.1 := by rw [← hs]; exact ⟨rfl, rfl, rfl⟩
  have f7 : s3.2.2.2.2.2.2 = r2.2.1.2.2.2.2.2.2 := by rw [← hs]; rfl
  have so2 : sOt r2.2.1 = sOt σ := rd.2.2.1.1.2.1.trans so1
  have sc2 : sCur r2.2.1 = !(sOt σ) := (rd.2.2.1.1.1.trans eb.2.2.2.1.1).trans cu
  have kk : ∀ d, sKd s3 d = if d = sCur r2.2.1 then sKd r2.2.1 (sOt r2.2.1) else sKd r2.2.1 d := fun d => by rw [← hs]; rfl
  have k1 : sKd s3 (!(sOt σ)) = sKd r2.2.1 (sOt σ) := by rw [kk, sc2, if_pos rfl, so2]
  have k2 : sKd s3 (sOt σ) = sKd r2.2.1 (sOt σ) := by
    rw [kk, sc2, if_neg (by cases sOt σ <;> decide)]
  have f12 : s3.1 7512 = r2.2.1.1 4006 := by
    rw [← hs]
    show (uI (uI r2.2.1 3701 0) 7512 ((uI r2.2.1 3701 0).1 4006)).1 7512 = _
    rw [uI_s, uI_o (by decide)]
  clear hs kk
  have ph3 := Ph_s (σ := r2.2.1) (σ' := s3) f5
  cases X with
  | inl yf =>
    obtain ⟨e0, e6, e7⟩ := z3 yf rfl
    refine Tm_suc (fun k => by rw [f_X11_program]) ?_
    refine Tm_yes (show r2.1.2 = 0 from e0) ?_
    have w := pg_no h0 hj rfl eb rd p5 f0 f1 f2 f3 f4 f5 f6 f7 k1
    have cn : cnC s3 = cnC σ := cn_keep cu (f6.1.trans sc2) eb rd f1 f3
    refine Tm_some ⟨rfl, ?_, f0, fun y ey => (by cases ey; exact ⟨w, (show -1 - s3.1 4007 = _ by rw [f1 4007 (by decide), e7]), f12.trans e6, cn⟩), fun z e => (by cases e)⟩
    show r2.2.2.1 + 0 + PhC s3 ≤ PhC σ + 1 ∧ r2.2.2.2 + 0 + PhS s3 ≤ PhS σ + 6
    omega
  | inr z =>
    obtain ⟨e0, ⟨pf, ec, ec16, ec4⟩, e6⟩ := z2 z rfl
    refine Tm_suc (fun k => by rw [f_X11_program]) ?_
    refine Tm_no (fun y => absurd ((show r2.1.2 = 0 from y).symm.trans e0) (by decide)) ?_
    refine pg_yes h0 hj t2 n20 rfl eb rd p5 pf f0 f1 f2 f3 f4 f5 f6 f7 k2 (fun s4 ic ph e4 k4 => ?_)
    refine Tm_suc (fun k => by rw [f_X11_program]) ?_
    have ph5 := Ph_s (σ := s4) (σ' := uI (uI (uI (uOt (uCur s4 (sOt s4)) (sCur s4)) 7510 1) 7511 0) 7513 0) rfl
    refine Tm_some ⟨rfl, ?_, ?_, fun _ e => (by cases e), fun y ey => ?_⟩
    · show r2.2.2.1 + 0 + PhC (uI (uI (uI (uOt (uCur s4 (sOt s4)) (sCur s4)) 7510 1) 7511 0) 7513 0) ≤ PhC σ + 1 ∧ r2.2.2.2 + 0 + PhS (uI (uI (uI (uOt (uCur s4 (sOt s4)) (sCur s4)) 7510 1) 7511 0) 7513 0) ≤ PhS σ + 6
      omega
    · show (uI (uI (uI (uOt (uCur s4 (sOt s4)) (sCur s4)) 7510 1) 7511 0) 7513 0).1 3701 = 0
      rw [uI_o (by decide), uI_o (by decide), uI_o (by decide)]
      exact e4
    · obtain rfl := Sum.inr.inj ey
      refine ⟨ic, ?_, ?_, ?_, ?_, ?_, Prod.ext ?_ (Prod.ext ?_ ?_)⟩
      · show (uI (uI (uI (uOt (uCur s4 (sOt s4)) (sCur s4)) 7510 1) 7511 0) 7513 0).1 7510 = 1
        rw [uI_o (by decide), uI_o (by decide), uI_s]
      · show (uI (uI (uI (uOt (uCur s4 (sOt s4)) (sCur s4)) 7510 1) 7511 0) 7513 0).1 7511 = 0
        rw [uI_o (by decide), uI_s]
      · show (uI (uI (uI (uOt (uCur s4 (sOt s4)) (sCur s4)) 7510 1) 7511 0) 7513 0).1 7513 = 0
        rw [uI_s]
      · show (uI (uI (uI (uOt (uCur s4 (sOt s4)) (sCur s4)) 7510 1) 7511 0) 7513 0).1 (fP (sOt s4) 3) = _
        rw [k4.1, uI_o (fP_n (sOt σ) 3 (Or.inl rfl)).2.1, uI_o (fP_n (sOt σ) 3 (Or.inl rfl)).2.2.1, uI_o (fP_n (sOt σ) 3 (Or.inl rfl)).2.2.2]
        show s4.1 (fP (sOt σ) 3) = _
        rw [k4.2.1, f1 _ (fP_n (sOt σ) 3 (Or.inl rfl)).1]
        exact ec
      · show (uI (uI (uI (uOt (uCur s4 (sOt s4)) (sCur s4)) 7510 1) 7511 0) 7513 0).1 7512 = 0
        rw [uI_o (by decide), uI_o (by decide), uI_o (by decide)]
        show s4.1 7512 = 0
        rw [k4.2.2.1, f12]
        exact e6
      · show (uI (uI (uI (uOt (uCur s4 (sOt s4)) (sCur s4)) 7510 1) 7511 0) 7513 0).1 (fP (sOt s4) 3) = _
        rw [k4.1, uI_o (fP_n (sOt σ) 3 (Or.inl rfl)).2.1, uI_o (fP_n (sOt σ) 3 (Or.inl rfl)).2.2.1, uI_o (fP_n (sOt σ) 3 (Or.inl rfl)).2.2.2]
        show s4.1 (fP (sOt σ) 3) = _
        rw [k4.2.1, f1 _ (fP_n (sOt σ) 3 (Or.inl rfl)).1]
        exact ec
      · show s4.2.2.1 (pR16 (sOt s4)) 0 = _
        rw [k4.1, k4.2.2.2.2, f3]
        exact ec16
      · show (uI (uI (uI (uOt (uCur s4 (sOt s4)) (sCur s4)) 7510 1) 7511 0) 7513 0).1 (fP (sOt s4) 4) = _
        rw [k4.1, uI_o (fP_n (sOt σ) 4 (Or.inr rfl)).2.1, uI_o (fP_n (sOt σ) 4 (Or.inr rfl)).2.2.1, uI_o (fP_n (sOt σ) 4 (Or.inr rfl)).2.2.2]
        show s4.1 (fP (sOt σ) 4) = _
        rw [k4.2.2.2.1, f1 _ (fP_n (sOt σ) 4 (Or.inr rfl)).1]
        exact ec4
/-- a pair of calls -/
def cPr (j : Nat) (cs : Nat → Prop) (gC : CS → Nat → Option RS) (gM : MS → Nat → Option (Int32 × MS)) (E : RS → Int32 × MS → Prop) : Prop := ∀ σ τ, IB j σ τ → Tm (gC σ) (fun r => cs r.1.1 ∧ r.2.2.1 + PhC r.2.1 ≤ PhC σ + 2 ∧ r.2.2.2 + PhS r.2.1 ≤ PhS σ + 12 ∧ Tm (gM τ) (fun q => IB (j + 1) r.2.1 q.2 ∧ E r q))
theorem cPr_T {cs : Nat → Prop} {gC : CS → Nat → Option RS} {gM : MS → Nat → Option (Int32 × MS)} {E : RS → Int32 × MS → Prop} (h : cPr j cs gC gM E) : cPr j cs gC gM (fun _ _ => True) := fun σ τ hi => Tm_mono (h σ τ hi) (fun r z => ⟨z.1, z.2.1, z.2.2.1, Tm_mono z.2.2.2 (fun q w => ⟨w.1, trivial⟩)⟩)
/-- a pair of calls, with what is said of the states before, too -/
def cPq (j : Nat) (cs : Nat → Prop) (gC : CS → Nat → Option RS) (gM : MS → Nat → Option (Int32 × MS)) (E : RS → Int32 × MS → Prop) (F : CS → MS → RS → Int32 × MS → Prop) : Prop := ∀ σ τ, IB j σ τ → Tm (gC σ) (fun r => cs r.1.1 ∧ r.2.2.1 + PhC r.2.1 ≤ PhC σ + 2 ∧ r.2.2.2 + PhS r.2.1 ≤ PhS σ + 12 ∧ Tm (gM τ) (fun q => IB (j + 1) r.2.1 q.2 ∧ E r q ∧ F σ τ r q))
theorem cPq_R {cs : Nat → Prop} {gC : CS → Nat → Option RS} {gM : MS → Nat → Option (Int32 × MS)} {E : RS → Int32 × MS → Prop} {F : CS → MS → RS → Int32 × MS → Prop} (h : cPq j cs gC gM E F) : cPr j cs gC gM E := fun σ τ hi => Tm_mono (h σ τ hi) (fun r z => ⟨z.1, z.2.1, z.2.2.1, Tm_mono z.2.2.2 (fun q w => ⟨w.1, w.2.1⟩)⟩)
/-- the fault's number: told anew on both sides, or left by both -/
def FK (σ : CS) (τ : MS) (r : RS) (q : Int32 × MS) : Prop := r.2.1.1 7512 = q.2.1 11 ∨ (r.2.1.1 7512 = σ.1 7512 ∧ q.2.1 11 = τ.1 11)
theorem hp_programE (hj : j < 512) : cPq j (fun x => x = 0) (fun σ k => f_X11_program k 0 lZ σ) (fun τ k => x_program k 0 (fun _ => 0) τ) (fun r q => r.1.2 = q.1) FK := by
  intro σ τ h
  obtain ⟨XE, ic, rf, tr, e10, e11, e13⟩ := h
  have ic0 := ic
  obtain ⟨n, sz, ⟨t1, t2, t3, t4⟩, _⟩ := ic
  obtain ⟨X, hG⟩ := gPrg_tot (τ.2.2 3) n (τ.2.2 10) (τ.2.2 11)
  refine Tm_mono (c_program (L := lZ) ic0 hj tr t2 t3 hG) (fun r z => ?_)
  obtain ⟨z1, z2, z3, z4, z5⟩ := z
  refine ⟨z1, by omega, by omega, ?_⟩
  refine Tm_mono (rj_program rf (fun _ => 0)) (fun q w => ?_)
  obtain ⟨⟨n', tp, w1⟩, w2⟩ := w
  obtain rfl : n' = n := nI_inj (tp.1.1.symm.trans (tr.1.symm.trans t2)) (by have := tp.1.2; omega) (by omega)
  rcases w1 with ⟨y, y1, y2, ⟨y3, y3', y3''⟩, y4, y5⟩ | ⟨y, y1, y2, ⟨y3, y3', y3''⟩, y4, y5⟩
  · rw [y1] at hG
    obtain ⟨k1, k2, k3, k4, k5, k6, k7⟩ := z5 y (Option.some.inj hG).symm
    exact ⟨⟨_, k1, y2, tRel_0 z3 w2, ⟨fun e => absurd (k2.symm.trans e) (by decide), fun e => absurd e y3⟩, ⟨fun _ => y4, fun _ => k3⟩, by rw [k4, y5]⟩, k5.trans y3'.symm, Or.inl (k6.trans y3''.symm)⟩
  · rw [y1] at hG
    obtain ⟨⟨k1, k2, k3, k4⟩, k5, k6, k7⟩ := z4 y (Option.some.inj hG).symm
    exact ⟨⟨XE, k1, y2, tRel_0 z3 w2, by rw [k2, y3]; exact e10, by rw [k3, y4]; exact e11, by rw [k4, y5]; exact e13⟩, k5.trans y3'.symm, Or.inl (k6.trans y3''.symm)⟩
theorem hp_program (hj : j < 512) : cPr j (fun x => x = 0) (fun σ k => f_X11_program k 0 lZ σ) (fun τ k => x_program k 0 (fun _ => 0) τ) (fun _ _ => True) := cPr_T (cPq_R (hp_programE hj))
end DYW
end JnS547
section JnS548
/-! The house: calls that only look. -/
section DYX
variable {σ s : CS} {ρ τ ω : MS} {b : Bool} {sz j n : Nat} {XE : XEt} {L : LV}
theorem IC_s (h : IC XE j σ) (hj : j < 512) : IC XE (j + 1) σ := by
  obtain ⟨n, sz, ⟨t1, t2, t3, t4⟩, ⟨p1, p2, p3, p4, p5, p6⟩, q, m, pp⟩ := h
  refine ⟨n, sz, ⟨t1, t2, by omega, t4⟩, ⟨p1, p2, p3, p4, p5, by omega⟩, q, m, pp.imp id (fun ⟨k0, gl, pr, c, k2, k3, k4⟩ => ⟨k0, gl, pr, c, k2, k3, fun z => ⟨(k4 z).1, (k4 z).2.1, by have := (k4 z).2.2; omega⟩⟩)⟩
theorem RfJ_s (h : RfJ XE j τ) : RfJ XE (j + 1) τ := by
  obtain ⟨h1, h2⟩ := h
  refine ⟨h1, h2.imp id (fun z => ?_)⟩
  obtain ⟨z1, TX, u, p, nX, g, t, KB, S, a1, a2, a3, a4, a5, C, K, z0, x66, sd, ri, ps⟩ := z
  refine ⟨z1, TX, u, p, nX, g, t, KB, S, a1, a2, a3, a4, a5, C, K, z0, x66, sd, ri, fun y => ?_⟩
  obtain ⟨m, m1, m2⟩ := ps y
  exact ⟨m, by omega, m2⟩
theorem hp_none (hj : j < 512) (h : IB j σ τ) : IB (j + 1) σ τ := by
  obtain ⟨XE, ic, rf, tr, e⟩ := h
  exact ⟨XE, IC_s ic hj, RfJ_s rf, tr, e⟩
theorem KpT_rel (h : tRel σ τ) (k : KpT τ ω) : tRel σ ω := by
  unfold tRel at h ⊢
  refine ⟨h.1.trans k.1.1.symm, fun i hi => ?_⟩
  rw [k.1.2 i (by rw [← h.1]; exact hi)]
  exact h.2 i hi
/-- the house left its state as it was -/
theorem IB_k {gM : Nat → Option (Int32 × MS)} (h : IB j σ τ) (hj : j < 512) (hr : ∀ XE, RfJ XE j τ → Tm (fun k => gM k) (fun q : Int32 × MS => RfJ XE (j + 1) q.2 ∧ KpT τ q.2)) : Tm (fun k => gM k) (fun q : Int32 × MS => IB (j + 1) σ q.2) := by
  obtain ⟨XE, ic, rf, tr, e10, e11, e13⟩ := h
  refine Tm_mono (hr XE rf) (fun q w => ?_)
  obtain ⟨w1, w2⟩ := w
  exact ⟨XE, IC_s ic hj, w1, KpT_rel tr w2, by rw [w2.2.2.1]; exact e10, by rw [w2.2.2.2]; exact e11, by rw [w2.2.1]; exact e13⟩
theorem IB_k2 {gM : Nat → Option (Int32 × MS)} (h : IB j σ τ) (hj : j < 512) (hr : ∀ XE, RfJ XE j τ → Tm (fun k => gM k) (fun q : Int32 × MS => RfJ XE (j + 1) q.2 ∧ KpT τ q.2)) : Tm (fun k => gM k) (fun q : Int32 × MS => IB (j + 1) σ q.2 ∧ True) := Tm_mono (IB_k h hj hr) (fun q w => ⟨w, trivial⟩)
def cPy (j : Nat) (gC : CS → Nat → Option (Int32 × CS)) (gM : MS → Nat → Option (Int32 × MS)) : Prop := ∀ σ τ, IB j σ τ → Tm (gC σ) (fun r => PhC r.2 ≤ PhC σ ∧ PhS r.2 ≤ PhS σ ∧ Tm (gM τ) (fun q => IB (j + 1) r.2 q.2))
/-- a call that leaves the state, or throws -/
theorem cPr_k {cs : Nat → Prop} {gC : CS → Nat → Option RS} {gM : MS → Nat → Option (Int32 × MS)} (hj : j < 512) (hC : ∀ σ τ, IB j σ τ → Tm (gC σ) (fun r => cs r.1.1 ∧ r.2.1 = σ ∧ r.2.2.1 ≤ 1 ∧ r.2.2.2 ≤ 6)) (hM : ∀ XE τ, RfJ XE j τ → Tm (gM τ) (fun q => RfJ XE (j + 1) q.2 ∧ KpT τ q.2)) : cPr j cs gC gM (fun _ _ => True) := by
  intro σ τ h
  refine Tm_mono (hC σ τ h) (fun r z => ?_)
  obtain ⟨z1, z2, z3, z4⟩ := z
  refine ⟨z1, by rw [z2]; omega, by rw [z2]; omega, ?_⟩
  rw [z2]
  exact IB_k2 (gM := gM τ) h hj (fun XE rf => hM XE τ rf)
theorem hp_fault (hj : j < 512) : cPy j (fun σ k => y_X11_fault k 0 lZ σ) (fun τ k => x_fault_ k 0 (fun _ => 0) τ) := by
  intro σ τ h
  show Tm (fun k => y_X11_fault k 0 lZ σ) _
  refine Tm_suc (fun k => by rw [y_X11_fault]) ?_
  exact Tm_some ⟨Nat.le_refl _, Nat.le_refl _, IB_k h hj (fun XE rf => rj_fault rf)⟩
theorem hp_count (hj : j < 512) (a1 : Int32) : cPr j (fun x => x = 0 ∨ x = 3) (fun σ k => f_X11_count k 0 (lI lZ 1 a1) σ) (fun τ k => x_count k 0 (upd (fun _ => 0) 1 a1) τ) (fun _ _ => True) := by
  refine cPr_k hj (fun σ τ h => ?_) (fun XE τ rf => rj_count rf)
  refine Tm_suc (fun k => by rw [f_X11_count]) ?_
  refine Tm_ite (fun _ => ?_) (fun _ => Tm_ite (fun _ => ?_) (fun _ => Tm_ite (fun _ => ?_) (fun _ => Tm_ite (fun _ => ?_) (fun _ => Tm_ite (fun _ => ?_) (fun _ => ?_)))))
  · exact Tm_suc (fun k => by rw [f_X11_count]) (Tm_some ⟨Or.inl rfl, rfl, Nat.zero_le _, Nat.zero_le _⟩)
  · exact Tm_suc (fun k => by rw [f_X11_count]) (Tm_some ⟨Or.inl rfl, rfl, Nat.zero_le _, Nat.zero_le _⟩)
  · refine Tm_suc (fun k => by rw [f_X11_count]) ?_
    exact Tm_chk (by decide) (Tm_some ⟨Or.inl rfl, rfl, Nat.zero_le _, Nat.zero_le _⟩)
  · exact Tm_suc (fun k => by rw [f_X11_count]) (Tm_some ⟨Or.inl rfl, rfl, Nat.zero_le _, Nat.zero_le _⟩)
  · exact Tm_suc (fun k => by rw [f_X11_count]) (Tm_some ⟨Or.inl rfl, rfl, Nat.zero_le _, Nat.zero_le _⟩)
  · exact Tm_suc (fun k => by rw [f_X11_count]) (Tm_some ⟨Or.inr rfl, rfl, Nat.le_refl _, Nat.le_refl _⟩)
/-- is there a run -/
theorem c_wantRun : Tm (fun k => f_X11_wantRun k 0 L σ) (fun r => (σ.1 7511 = 0 ∧ r = ((2, 0), σ, (1, 6))) ∨ (¬ σ.1 7511 = 0 ∧ r = ((0, 0), σ, (0, 0)))) := by
  refine Tm_suc (fun k => by rw [f_X11_wantRun]) ?_
  refine Tm_ite (fun z => ?_) (fun z => ?_)
  · exact Tm_some (Or.inl ⟨z, rfl⟩)
  · exact Tm_suc (fun k => by rw [f_X11_wantRun]) (Tm_some (Or.inr ⟨z, rfl⟩))
/-- a run is wanted: else it throws -/
theorem Tm_wr {f : Nat → RS → Option RS} {Q : RS → Prop} (hN : σ.1 7511 = 0 → Q ((2, 0), σ, (1, 6))) (hY : ¬ σ.1 7511 = 0 → Tm (fun k => f k ((0, 0), σ, (0, 0))) Q) : Tm (fun k => ox (f_X11_wantRun k 0 L σ) (f k)) Q := by
  refine Tm_ox c_wantRun (fun r z nz => ?_) (fun r z e => ?_)
  · rcases z with ⟨z, e⟩ | ⟨z, e⟩
    · rw [e]; exact hN z
    · rw [e] at nz; exact absurd rfl nz
  · rcases z with ⟨z, e'⟩ | ⟨z, e'⟩
    · rw [e'] at e; exact absurd (show (2 : Nat) = 0 from e) (by decide)
    · rw [e']
      refine Tm_mono (hY z) (fun q w => ?_)
      show Q (q.1, q.2.1, (0 + q.2.2.1, 0 + q.2.2.2))
      rw [Nat.zero_add, Nat.zero_add]
      exact w
theorem hp_state (hj : j < 512) (a1 : Int32) : cPr j (fun x => x = 0 ∨ x = 3 ∨ x = 2) (fun σ k => f_X11_state k 0 (lI lZ 1 a1) σ) (fun τ k => x_state k 0 (upd (fun _ => 0) 1 a1) τ) (fun _ _ => True) := by
  refine cPr_k hj (fun σ τ h => ?_) (fun XE τ rf => rj_state rf)
  have no : ∀ L' : LV, Tm (fun k => f_X11_state k 1 L' σ) (fun r => (r.1.1 = 0 ∨ r.1.1 = 3 ∨ r.1.1 = 2) ∧ r.2.1 = σ ∧ r.2.2.1 ≤ 1 ∧ r.2.2.2 ≤ 6) := fun L' => Tm_suc (fun k => by rw [f_X11_state]) (Tm_some ⟨Or.inr (Or.inl rfl), rfl, Nat.le_refl _, Nat.le_refl _⟩)
  refine Tm_suc (fun k => by rw [f_X11_state]) ?_
  refine Tm_ite (fun _ => no _) (fun _ => Tm_ite (fun _ => ?_) (fun _ => no _))
  refine Tm_suc (fun k => by rw [f_X11_state]) ?_
  refine Tm_wr (fun _ => ⟨Or.inr (Or.inr rfl), rfl, Nat.le_refl _, Nat.le_refl _⟩) (fun _ => ?_)
  have ok : ∀ x : Int32, (fun r : RS => (r.1.1 = 0 ∨ r.1.1 = 3 ∨ r.1.1 = 2) ∧ r.2.1 = σ ∧ r.2.2.1 ≤ 1 ∧ r.2.2.2 ≤ 6) ((0, x), σ, (0, 0)) := fun x => ⟨Or.inl rfl, rfl, Nat.zero_le _, Nat.zero_le _⟩
  refine Tm_ite (fun _ => ?_) (fun _ => Tm_ite (fun _ => ?_) (fun _ => Tm_ite (fun _ => ?_) (fun _ => Tm_ite (fun _ => ?_) (fun _ => Tm_ite (fun _ => ?_) (fun _ => Tm_ite (fun _ => ?_) (fun _ => Tm_ite (fun _ => ?_) (fun _ => Tm_ite (fun _ => ?_) (fun _ => Tm_ite (fun _ => ?_) (fun _ => ?_)))))))))
  all_goals exact Tm_suc (fun k => by rw [f_X11_state]) (Tm_some (ok _))
theorem hp_out (hj : j < 512) (a1 : Int32) : cPr j (fun x => x = 0 ∨ x = 3) (fun σ k => f_X11_out k 0 (lI lZ 1 a1) σ) (fun τ k => x_out k 0 (upd (fun _ => 0) 1 a1) τ) (fun _ _ => True) := by
  refine cPr_k hj (fun σ τ h => ?_) (fun XE τ rf => rj_out rf)
  obtain ⟨XE, ⟨n, sz, _, _, _, ⟨_, by0⟩, _⟩, _⟩ := h
  have n22 : sN σ 22 ≤ 60000 := by0.2.2.2.1
  have no : ∀ L' : LV, Tm (fun k => f_X11_out k 1 L' σ) (fun r => (r.1.1 = 0 ∨ r.1.1 = 3) ∧ r.2.1 = σ ∧ r.2.2.1 ≤ 1 ∧ r.2.2.2 ≤ 6) := fun L' => Tm_suc (fun k => by rw [f_X11_out]) (Tm_some ⟨Or.inr rfl, rfl, Nat.le_refl _, Nat.le_refl _⟩)
  refine Tm_suc (fun k => by rw [f_X11_out]) ?_
  refine Tm_ite (fun _ => no _) (fun _ => Tm_ite (fun _ => no _) (fun c1 => Tm_ite (fun _ => no _) (fun _ => Tm_ite (fun _ => no _) (fun _ => Tm_ite (fun c2 => ?_) (fun _ => no _)))))
  refine Tm_suc (fun k => by rw [f_X11_out]) ?_
  refine Tm_chk ?_ (Tm_some ⟨Or.inl rfl, rfl, Nat.zero_le _, Nat.zero_le _⟩)
  have p : 0 ≤ a1 := by rw [i_le]; have c1' : ¬ a1 < 0 := c1; rw [i_lt] at c1'; omega
  have u1 := (u_nn a1).1 p
  have c2' : a1 < nI (sN σ 22) := c2
  have c3 := (u_ltn u1 (by rw [u_n (by omega)]; omega)).1 c2'
  rw [u_n (by omega)] at c3
  exact u_in c3 (by omega)
theorem hp_shown (hj : j < 512) (a1 : Int32) : cPr j (fun x => x = 0 ∨ x = 3) (fun σ k => f_X11_shown k 0 (lI lZ 1 a1) σ) (fun τ k => x_shown k 0 (upd (fun _ => 0) 1 a1) τ) (fun _ _ => True) := by
  refine cPr_k hj (fun σ τ h => ?_) (fun XE τ rf => rj_shown rf)
  obtain ⟨XE, ⟨n, sz, _, _, ⟨q1, q2, q3⟩, ⟨_, by0⟩, _⟩, _⟩ := h
  have n66 : sN σ 66 ≤ 10400 := by0.2.2.2.2.1
  have no : ∀ L' : LV, Tm (fun k => f_X11_shown k 1 L' σ) (fun r => (r.1.1 = 0 ∨ r.1.1 = 3) ∧ r.2.1 = σ ∧ r.2.2.1 ≤ 1 ∧ r.2.2.2 ≤ 6) := fun L' => Tm_suc (fun k => by rw [f_X11_shown]) (Tm_some ⟨Or.inr rfl, rfl, Nat.le_refl _, Nat.le_refl _⟩)
  refine Tm_suc (fun k => by rw [f_X11_shown]) ?_
  refine Tm_ite (fun _ => no _) (fun c1 => Tm_ite (fun c2 => ?_) (fun _ => no _))
  refine Tm_suc (fun k => by rw [f_X11_shown]) ?_
  refine Tm_chk ?_ (Tm_some ⟨Or.inl rfl, rfl, Nat.zero_le _, Nat.zero_le _⟩)
  have p : 0 ≤ a1 := by rw [i_le]; have c1' : ¬ a1 < 0 := c1; rw [i_lt] at c1'; omega
  have u1 := (u_nn a1).1 p
  have c2' : a1 < σ.1 7517 := c2
  have c3 := (u_ltn u1 (by omega)).1 c2'
  exact u_in (show uN a1 < sN σ 66 by omega) (by omega)
end DYX
end JnS548
